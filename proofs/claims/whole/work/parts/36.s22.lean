/-! trays as calls -/
def TC (J : XJ) (T : Nat → Nat → Int64) : Prop := ∀ t, t < 4 → ∀ i, i < 60 → J (5 + t) i = T t i
def TM (J : XJ) (T : Nat → Nat → Int64) : Prop := ∀ t, t < 4 → ∀ i, i < 60 → J 68 (60 * t + i) = T t i
def jc (J J' : XJ) : Prop := ∀ q, q < 5 ∨ 8 < q → J' q = J q
theorem jc.r (J : XJ) : jc J J := fun _ _ => rfl
theorem jc.u {J J' : XJ} {t i : Nat} {v : Int64} (h : jc J J') (ht : t < 4) : jc J (up2 J' (5 + t) i v) := fun q hq => by rw [up_o (by omega)]; exact h q hq
def tz (T : Nat → Nat → Int64) (t n : Nat) : Nat → Nat → Int64 := fun a b => if a = t ∧ b < n then lN 0 else T a b
def ts (T : Nat → Nat → Int64) (t p : Nat) (v : Int64) : Nat → Nat → Int64 := fun a b => if a = t ∧ b = p then v else T a b
def tc (T : Nat → Nat → Int64) (t i o j m : Nat) : Nat → Nat → Int64 := fun a b => if a = o ∧ j ≤ b ∧ b < j + m then T t (i + (b - j)) else T a b
theorem TC.s {J : XJ} {T : Nat → Nat → Int64} {t p : Nat} {v : Int64} (h : TC J T) (ht : t < 4) : TC (up2 J (5 + t) p v) (ts T t p v) := fun a ha b hb => by
  unfold ts
  by_cases e : a = t
  · subst e
    by_cases e2 : b = p
    · subst e2; rw [up_e, if_pos ⟨rfl, rfl⟩]
    · rw [up_i e2, if_neg (fun q => e2 q.2)]; exact h a ha b hb
  · rw [up_o (by omega), if_neg (fun q => e q.1)]; exact h a ha b hb
theorem TM.s {J : XJ} {T : Nat → Nat → Int64} {t p : Nat} {v : Int64} (h : TM J T) (hp : p < 60) : TM (up2 J 68 (60 * t + p) v) (ts T t p v) := fun a ha b hb => by
  unfold ts
  by_cases e : a = t ∧ b = p
  · rw [if_pos e, e.1, e.2, up_e]
  · rw [if_neg e, up_i (fun q => e ⟨by omega, by omega⟩)]; exact h a ha b hb
theorem TC.c {J : XJ} {T T' : Nat → Nat → Int64} (h : TC J T) (e : ∀ a, a < 4 → ∀ b, b < 60 → T' a b = T a b) : TC J T' := fun a ha b hb => by rw [e a ha b hb]; exact h a ha b hb
theorem TM.c {J : XJ} {T T' : Nat → Nat → Int64} (h : TM J T) (e : ∀ a, a < 4 → ∀ b, b < 60 → T' a b = T a b) : TM J T' := fun a ha b hb => by rw [e a ha b hb]; exact h a ha b hb
theorem tz_s {T : Nat → Nat → Int64} {t n a b : Nat} : ts (tz T t n) t n (lN 0) a b = tz T t (n + 1) a b := by
  unfold ts tz
  by_cases e : a = t
  · by_cases e2 : b = n
    · rw [if_pos ⟨e, e2⟩, if_pos ⟨e, by omega⟩]
    · rw [if_neg (fun q => e2 q.2)]
      by_cases e3 : b < n
      · rw [if_pos ⟨e, e3⟩, if_pos ⟨e, by omega⟩]
      · rw [if_neg (fun q => e3 q.2), if_neg (fun q => by have := q.2; omega)]
  · rw [if_neg (fun q => e q.1), if_neg (fun q => e q.1), if_neg (fun q => e q.1)]
def s16 (x y z : Int32) : Nat := if okx x 4 ∧ okx y 4 then (if 60 < z.toInt then 5 else if z.toInt < 0 then 6 else 0) else 1
theorem s16_le {x y z : Int32} : s16 x y z < 7 := by unfold s16; split; split; omega; split <;> omega; omega
theorem s16_0 {x y z : Int32} (h : s16 x y z = 0) : okx x 4 ∧ okx y 4 ∧ okx z 61 := by
  unfold s16 at h
  split at h
  · rename_i q
    split at h
    · cases h
    · split at h
      · cases h
      · exact ⟨q.1, q.2, by omega, by omega⟩
  · cases h
theorem k17 {d : Nat} {Q : XQ} {S : XS} {I : XI} {J : XJ} {r : XR} {cu su t n : Nat} {T : Nat → Nat → Int64} {w2 : Value} (hL : LAY S r) (ht : t < 4) (hn : n ≤ 60) (hQ : ∀ J', jc J J' → TC J' (tz T t n) → Q (some (.int (nI 0))) S I J' r) :
    ∀ j i J1, i + j = n → jc J J1 → TC J1 (tz T t i) → xrun z0 (xcall d) Q 17 50 [.ref 3, .int (nI t), w2, .int (nI n), .int (nI i)] [] S I J1 r cu su
  | 0, i, J1, hi, g, e => by
    have e1 : i = n := by omega
    subst e1
    exact K17_50 hL (yes (Int32.le_refl _) (hQ J1 g e))
  | j + 1, i, J1, hi, g, e => by
    refine K17_50 hL (no (by rw [nI_leI (by omega) (by omega)]; omega) ⟨vp_in_nI (by omega) (by decide), vp_in_nI (by omega) (by decide), ?_⟩)
    rw [nI_clamp (by omega), nI_clamp (by omega), nI_add]
    exact k17 hL ht hn hQ j (i + 1) _ (by omega) (g.u ht) ((e.s ht).c (fun a _ b _ => tz_s.symm))
theorem tz_0 {T : Nat → Nat → Int64} {t a b : Nat} : tz T t 0 a b = T a b := by unfold tz; rw [if_neg (fun q => Nat.not_lt_zero _ q.2)]
theorem c16 {d : Nat} {Q : XQ} {S : XS} {I : XI} {J : XJ} {r : XR} {x y z : Int32} {T : Nat → Nat → Int64} (hL : LAY S r) (hT : TC J T) (h0 : s16 x y z ≠ 0 → Q (some (.int 0)) S (up2 I 0 13 (nI (s16 x y z))) J r)
    (h1 : s16 x y z = 0 → ∀ J', jc J J' → TC J' (tz T (cl x) (cl z)) → Q (some (.int 1)) S (up2 (up2 (up2 I 9 (cl x) y) 10 (cl x) z) 0 13 (nI 0)) J' r) : xcall (d + 3) 16 [.ref 0, .int x, .int y, .int z] S I J r Q := by
  have hs := s16_le (x := x) (y := y) (z := z)
  have z3 : (nI 3).toInt = 3 := rfl
  have z60 : (nI 60).toInt = 60 := rfl
  have bad : ∀ s, s16 x y z = s → s ≠ 0 → xrun z0 (xcall (d + 2)) Q 16 11 [.ref 0, .int x, .int y, .int z] [.int (nI s), .ref 0] S I J r 0 0 := fun s e h => by
    subst e
    exact K16_11 hL (E19 hL (yes (st_1 h (by omega)) (K16_14 ⟨Or.inl rfl, h0 h⟩)))
  refine E16 hL (E17 (c18 (fun k k1 k2 => K17_4 hL (no (by decide) ?_)) (fun h => K17_4 hL (yes rfl ?_))))
  · have hx : okx x 4 := by rw [k2]; exact okx_nI k1 (by decide)
    refine ⟨fun q => ?_, fun q => ⟨fun q2 => ⟨fun q3 => ⟨fun q4 => ?_, fun q4 => ?_⟩, fun q3 => ?_⟩, fun q2 => ?_⟩⟩
    · rw [i_lt, i_z] at q
      exact bad 1 (by unfold s16; rw [if_neg (fun h => by have := h.2.1; omega)]) (by decide)
    · rw [i_lt, i_z] at q
      rw [i_le, z3] at q2
      rw [i_le, z60] at q3
      rw [i_le, i_z] at q4
      have e : s16 x y z = 0 := by unfold s16; rw [if_pos ⟨hx, by omega, by omega⟩, if_neg (by omega), if_neg (by omega)]
      have hz : okx z 61 := ⟨q4, by omega⟩
      obtain ⟨z1, z2⟩ := okx_cl hz
      have h1' := h1 e
      rw [k2] at h1' ⊢
      rw [cl_nI (by omega)] at h1'
      refine ⟨vp_in_nI (by omega) (by decide), vp_in_nI (by omega) (by decide), ?_⟩
      rw [nI_clamp (by omega)]
      have key := k17 (d := d + 1) (cu := 0) (su := 0) (I := up2 (up2 I 9 k y) 10 k z) (J := J) (w2 := .int y) (T := T) (n := cl z) (Q := fun v S1 I1 J1 r1 => xrun z0 (xcall (d + 2)) Q 16 11 [.ref 0, .int (nI k), .int y, .int z] (v.toList ++ [.ref 0]) S1 I1 J1 r1 0 0) hL k1 (by omega) (fun J' g e2 => K16_11 hL (E19 hL (nno rfl (K16_14 ⟨Or.inr rfl, h1' J' g e2⟩)))) (cl z) 0 J (by omega) (fun _ _ => rfl) (hT.c (fun a _ b _ => tz_0))
      rw [← z2] at key
      exact key
    · rw [i_lt, i_z] at q
      rw [i_le, z3] at q2
      rw [i_le, z60] at q3
      rw [i_le, i_z] at q4
      exact bad 6 (by unfold s16; rw [if_pos ⟨hx, by omega, by omega⟩, if_neg (by omega), if_pos (by omega)]) (by decide)
    · rw [i_lt, i_z] at q
      rw [i_le, z3] at q2
      rw [i_le, z60] at q3
      exact bad 5 (by unfold s16; rw [if_pos ⟨hx, by omega, by omega⟩, if_pos (by omega)]) (by decide)
    · rw [i_le, z3] at q2
      exact bad 1 (by unfold s16; rw [if_neg (fun h => by have := h.2.2; omega)]) (by decide)
  · exact bad 1 (by unfold s16; rw [if_neg (fun q => h q.1)]) (by decide)
theorem k194 {d : Nat} {Q : XQ} {S : XS} {I : XI} {J : XJ} {r : XR} {cu su t n : Nat} {T : Nat → Nat → Int64} {w2 : Value} (hL : LAY S r) (ht : t < 4) (hn : n ≤ 60) (hQ : ∀ J', jf 68 J J' → TM J' (tz T t n) → Q (some (.int 1)) S I J' r) :
    ∀ j i J1, i + j = n → jf 68 J J1 → TM J1 (tz T t i) → xrun z0 (xcall d) Q 194 74 [.ref 65, .int (nI t), w2, .int (nI n), .int (nI i)] [] S I J1 r cu su
  | 0, i, J1, hi, g, e => by
    have e1 : i = n := by omega
    subst e1
    exact K194_74 hL (yes (Int32.le_refl _) (hQ J1 g e))
  | j + 1, i, J1, hi, g, e => by
    refine K194_74 hL (no (by rw [nI_leI (by omega) (by omega)]; omega) ?_)
    rw [pk_mul, nI_add, nI_clamp (by omega), nI_add]
    exact ⟨vp_in_nI (by omega) (by decide), k194 hL ht hn hQ j (i + 1) _ (by omega) g.u ((e.s (by omega)).c (fun a _ b _ => tz_s.symm))⟩
theorem r194 {d : Nat} {Q : XQ} {S : XS} {I : XI} {J : XJ} {r : XR} {x y z : Int32} {T : Nat → Nat → Int64} (hL : LAY S r) (hT : TM J T) (h0 : s16 x y z ≠ 0 → Q (some (.int 0)) S (up2 (m2 I) 65 0 (nI (s16 x y z))) J r)
    (h1 : s16 x y z = 0 → ∀ J', jf 68 J J' → TM J' (tz T (cl x) (cl z)) → Q (some (.int 1)) S (up2 (up2 (m2 I) 66 (cl x) y) 67 (cl x) z) J' r) : xcall (d + 2) 194 [.ref 65, .int x, .int y, .int z] S I J r Q := by
  have z3 : (nI 3).toInt = 3 := rfl
  have z4 : (nI 4).toInt = 4 := rfl
  have z60 : (nI 60).toInt = 60 := rfl
  refine E194 hL ⟨fun q => ?_, fun q => ⟨fun q2 => ?_, fun q2 => ⟨fun q3 => ?_, fun q3 => ⟨fun q4 => ⟨fun q5 => ⟨fun q6 => ?_, fun q6 => ?_⟩, fun q5 => ?_⟩, fun q4 => ?_⟩⟩⟩⟩
  · rw [i_lt, i_z] at q
    have e : s16 x y z = 1 := by unfold s16; rw [if_neg (fun h => by have := h.1.1; omega)]
    rw [e] at h0
    exact E195 hL (K194_33 ⟨Or.inl rfl, h0 (by decide)⟩)
  · rw [i_le, z4] at q2
    have e : s16 x y z = 1 := by unfold s16; rw [if_neg (fun h => by have := h.1.2; omega)]
    rw [e] at h0
    exact E195 hL (K194_33 ⟨Or.inl rfl, h0 (by decide)⟩)
  · rw [i_lt, i_z] at q3
    have e : s16 x y z = 1 := by unfold s16; rw [if_neg (fun h => by have := h.2.1; omega)]
    rw [e] at h0
    exact E195 hL (K194_33 ⟨Or.inl rfl, h0 (by decide)⟩)
  · rw [i_lt, i_z] at q q3
    rw [i_le, z4] at q2
    rw [i_le, z3] at q4
    rw [i_le, z60] at q5
    rw [i_le, i_z] at q6
    have hx : okx x 4 := ⟨by omega, by omega⟩
    have hz : okx z 61 := ⟨by omega, by omega⟩
    have e : s16 x y z = 0 := by unfold s16; rw [if_pos ⟨hx, by omega, by omega⟩, if_neg (by omega), if_neg (by omega)]
    have h1' := h1 e
    obtain ⟨k1, k2⟩ := okx_cl hx
    obtain ⟨m1, m2'⟩ := okx_cl hz
    generalize cl x = k at *
    generalize cl z = n at *
    subst k2 m2'
    refine ⟨vp_in_nI (by omega) (by decide), vp_in_nI (by omega) (by decide), ?_⟩
    rw [nI_clamp (by omega)]
    exact k194 (T := T) hL k1 (by omega) h1' n 0 J (by omega) (fun _ _ => rfl) (hT.c (fun a _ b _ => tz_0))
  · rw [i_lt, i_z] at q q3
    rw [i_le, z4] at q2
    rw [i_le, z3] at q4
    rw [i_le, z60] at q5
    rw [i_le, i_z] at q6
    have e : s16 x y z = 6 := by unfold s16; rw [if_pos ⟨⟨by omega, by omega⟩, by omega, by omega⟩, if_neg (by omega), if_pos (by omega)]
    rw [e] at h0
    exact E195 hL (K194_56 ⟨Or.inl rfl, h0 (by decide)⟩)
  · rw [i_lt, i_z] at q q3
    rw [i_le, z4] at q2
    rw [i_le, z3] at q4
    rw [i_le, z60] at q5
    have e : s16 x y z = 5 := by unfold s16; rw [if_pos ⟨⟨by omega, by omega⟩, by omega, by omega⟩, if_pos (by omega)]
    rw [e] at h0
    exact E195 hL (K194_45 ⟨Or.inl rfl, h0 (by decide)⟩)
  · rw [i_le, z3] at q4
    have e : s16 x y z = 1 := by unfold s16; rw [if_neg (fun h => by have := h.2.2; omega)]
    rw [e] at h0
    exact E195 hL (K194_33 ⟨Or.inl rfl, h0 (by decide)⟩)
/-! a place of a tray -/
def lka (I : XI) (x p : Int32) : Nat := if okx x 4 then (if (I 67 (cl x)).toInt < 0 then 3 else if 0 ≤ p.toInt ∧ p.toInt < (I 67 (cl x)).toInt then 0 else 4) else 1
theorem lka_le {I : XI} {x p : Int32} : lka I x p < 5 := by unfold lka; split; split; omega; split <;> omega; omega
theorem lka_0 {I : XI} {J : XJ} {x p : Int32} (t : TR I J) (h : lka I x p = 0) : cl x < 4 ∧ x = nI (cl x) ∧ cl p < 60 ∧ p = nI (cl p) := by
  unfold lka at h
  split at h
  · rename_i h1
    obtain ⟨p1, p2⟩ := okx_cl h1
    have hn := t.n p1
    split at h
    · cases h
    · split at h
      · rename_i h3
        have h4 : okx p 60 := ⟨h3.1, by have := h3.2; omega⟩
        obtain ⟨p3, p4⟩ := okx_cl h4
        exact ⟨p1, p2, p3, p4⟩
      · cases h
  · cases h
theorem c22 {d : Nat} {Q : XQ} {S : XS} {I : XI} {J : XJ} {r : XR} {x p : Int32} {J0 : XJ} (hL : LAY S r) (t : TR I J0) (hQ : Q (some (.int (nI (lka I x p)))) S I J r) : xcall (d + 3) 22 [.ref 3, .int x, .int p] S I J r Q := by
  have z0' : (nI 0).toInt = 0 := rfl
  unfold lka at hQ
  refine E22 hL (c23 hL t (K22_6 hL ?_))
  unfold lkf
  by_cases hx : okx x 4
  · rw [if_pos hx] at hQ ⊢
    obtain ⟨k1, k2⟩ := okx_cl hx
    have hn := t.n k1
    have hq := (t _ k1).2.1
    by_cases q : (I 67 (cl x)).toInt < 0
    · rw [if_pos q] at hQ ⊢
      exact no (by decide) hQ
    · rw [if_neg q] at hQ ⊢
      rw [if_pos (by omega)]
      refine yes rfl ⟨fun q2 => ?_, fun q2 => ?_⟩
      · rw [i_lt, i_z] at q2
        rw [if_neg (by omega)] at hQ; exact hQ
      · rw [i_lt, i_z] at q2
        generalize cl x = k at *
        subst k2
        refine ⟨vp_in_nI (by omega) (by decide), ?_⟩
        rw [nI_clamp (by omega), hq]
        by_cases q3 : p.toInt < (I 67 k).toInt
        · rw [if_pos ⟨by omega, q3⟩] at hQ
          exact no (by rw [i_le]; omega) hQ
        · rw [if_neg (fun h => q3 h.2)] at hQ
          exact yes (by rw [i_le]; omega) hQ
  · rw [if_neg hx] at hQ ⊢
    exact no (by decide) hQ
theorem r197 {d : Nat} {Q : XQ} {S : XS} {I : XI} {J : XJ} {r : XR} {x p : Int32} (hL : LAY S r) (hQ : Q (some (.int (nI (lka I x p)))) S I J r) : xcall (d + 2) 197 [.ref 65, .int x, .int p] S I J r Q := by
  have z0' : (nI 0).toInt = 0 := rfl
  have z4 : (nI 4).toInt = 4 := rfl
  unfold lka at hQ
  refine E197 hL (E198 hL ⟨fun q => ?_, fun q => ⟨fun q2 => ?_, fun q2 => ?_⟩⟩)
  · rw [i_lt, i_z] at q
    rw [if_neg (c := okx x 4) (fun h => by have := h.1; omega)] at hQ
    exact K197_5 hL (no (by decide) hQ)
  · rw [i_lt, i_z] at q
    rw [i_lt, z4] at q2
    have hx : okx x 4 := ⟨by omega, by omega⟩
    rw [if_pos hx] at hQ
    obtain ⟨k1, k2⟩ := okx_cl hx
    generalize cl x = k at *
    subst k2
    refine ⟨vp_in_nI (by omega) (by decide), ?_⟩
    rw [nI_clamp (by omega)]
    refine ⟨fun q3 => K197_5 hL (yes (by decide) ⟨fun q4 => ?_, fun q4 => ⟨vp_in_nI (by omega) (by decide), ?_⟩⟩), fun q3 => K197_5 hL (no (by decide) ?_)⟩
    · rw [i_le, i_z] at q3
      rw [i_lt, i_z] at q4
      rw [if_neg (by omega), if_neg (by omega)] at hQ; exact hQ
    · rw [i_le, i_z] at q3
      rw [i_lt, i_z] at q4
      rw [nI_clamp (by omega)]
      rw [if_neg (by omega)] at hQ
      by_cases q5 : p.toInt < (I 67 k).toInt
      · rw [if_pos ⟨by omega, q5⟩] at hQ
        exact yes (by rw [i_lt]; exact q5) hQ
      · rw [if_neg (fun h => q5 h.2)] at hQ
        exact no (by rw [i_lt]; exact q5) hQ
    · rw [i_le, i_z] at q3
      rw [if_pos (by omega)] at hQ; exact hQ
  · rw [i_lt, z4] at q2
    rw [if_neg (c := okx x 4) (fun h => by have := h.2; omega)] at hQ
    exact K197_5 hL (no (by decide) hQ)
/-- a number cut to a sort -/
def cutv (s : Int32) (v : Int64) : Int64 := if s = nI 0 then v.toInt32.toInt8.toInt32.toInt64 else if s = nI 1 then v.toInt32.toInt16.toInt32.toInt64 else if s = nI 2 then v.toInt32.toInt64 else v
theorem c24 {d : Nat} {Q : XQ} {S : XS} {I : XI} {J : XJ} {r : XR} {s : Int32} {v : Int64} (hQ : Q (some (.long (cutv s v))) S I J r) : xcall (d + 1) 24 [.long v, .int s] S I J r Q := by
  unfold cutv at hQ
  refine E24 ⟨fun q => ?_, fun q => ⟨fun q2 => ?_, fun q2 => ⟨fun q3 => ?_, fun q3 => ?_⟩⟩⟩
  · rw [if_pos q] at hQ; exact hQ
  · rw [if_neg q, if_pos q2] at hQ; exact hQ
  · rw [if_neg q, if_neg q2, if_pos q3] at hQ; exact hQ
  · rw [if_neg q, if_neg q2, if_neg q3] at hQ; exact hQ
theorem r199 {d : Nat} {Q : XQ} {S : XS} {I : XI} {J : XJ} {r : XR} {s : Int32} {v : Int64} (hQ : Q (some (.long (cutv s v))) S I J r) : xcall (d + 1) 199 [.int s, .long v] S I J r Q := by
  unfold cutv at hQ
  refine E199 ⟨fun q => ⟨fun q2 => ⟨fun q3 => ?_, fun q3 => ?_⟩, fun q2 => ?_⟩, fun q => ?_⟩
  · rw [if_neg (by exact q), if_neg (by exact q2), if_neg (by exact q3)] at hQ; exact hQ
  · have q3' := Decidable.byContradiction q3
    rw [if_neg (by exact q), if_neg (by exact q2), if_pos q3'] at hQ; exact hQ
  · have q2' := Decidable.byContradiction q2
    rw [if_neg (by exact q), if_pos q2'] at hQ; exact hQ
  · have q' := Decidable.byContradiction q
    rw [if_pos (by exact q')] at hQ; exact hQ
/-- put: what a place gets -/
theorem c21 {d : Nat} {Q : XQ} {S : XS} {I : XI} {J : XJ} {r : XR} {x p : Int32} {v : Int64} {T : Nat → Nat → Int64} {J0 : XJ} (hL : LAY S r) (t : TR I J0) (hT : TC J T) (h0 : lka I x p ≠ 0 → Q (some (.int (nI (lka I x p)))) S I J r)
    (h1 : lka I x p = 0 → ∀ J', jc J J' → TC J' (ts T (cl x) (cl p) (cutv (I 66 (cl x)) v)) → Q (some (.int (nI 0))) S I J' r) : xcall (d + 4) 21 [.ref 3, .int x, .int p, .long v] S I J r Q := by
  have hl := lka_le (I := I) (x := x) (p := p)
  refine E21 hL (c22 hL t (K21_6 hL ?_))
  by_cases e : lka I x p = 0
  · obtain ⟨a1, a2, a3, a4⟩ := lka_0 t e
    have h1' := h1 e
    rw [e]
    generalize cl x = k at *
    generalize cl p = m at *
    subst a2 a4
    obtain ⟨s, s1, s2, s3⟩ := (t k a1).1
    refine nno rfl ⟨vp_in_nI (by omega) (by decide), vp_in_nI (by omega) (by decide), ?_⟩
    rw [nI_clamp (by omega), s3, ← s2]
    refine c24 (K21_30 (tt2 := 5 + k) ?_ ⟨vp_in_nI (by omega) (by decide), ?_⟩)
    · have := rw_s hL (i := nI k) (vp_in_nI (by omega) (by decide))
      rw [nI_clamp (by omega)] at this
      exact this
    · rw [nI_clamp (by omega)]
      exact h1' _ ((jc.r J).u a1) (hT.s a1)
  · exact yes (st_1 e (by omega)) (h0 e)
