theorem c20 {d : Nat} {Q : XQ} {S : XS} {I : XI} {J : XJ} {r : XR} {x p : Int32} {v : Int64} {T : Nat → Nat → Int64} (hL : LAY S r) (t : TR I J) (hT : TC J T) (h0 : lka I x p ≠ 0 → Q (some (.int 0)) S (up2 I 0 13 (nI (lka I x p))) J r)
    (h1 : lka I x p = 0 → ∀ J', jc J J' → TC J' (ts T (cl x) (cl p) (cutv (I 66 (cl x)) v)) → Q (some (.int 1)) S (up2 I 0 13 (nI 0)) J' r) : xcall (d + 5) 20 [.ref 0, .int x, .int p, .long v] S I J r Q := by
  have hl := lka_le (I := I) (x := x) (p := p)
  exact E20 hL (c21 hL t hT (fun e => K20_11 hL (E19 hL (yes (st_1 e (by omega)) (K20_14 ⟨Or.inl rfl, h0 e⟩)))) (fun e J' g h => K20_11 hL (E19 hL (nno rfl (K20_14 ⟨Or.inr rfl, h1 e J' g h⟩)))))
/-- the reference's write -/
theorem r196 {d : Nat} {Q : XQ} {S : XS} {I : XI} {J : XJ} {r : XR} {x p : Int32} {v : Int64} {T : Nat → Nat → Int64} {J0 : XJ} (hL : LAY S r) (t : TR I J0) (hT : TM J T) (h0 : lka I x p ≠ 0 → Q (some (.int 0)) S (up2 (up2 I 65 1 (nI 0)) 65 0 (nI (lka I x p))) J r)
    (h1 : lka I x p = 0 → ∀ J', jf 68 J J' → TM J' (ts T (cl x) (cl p) (cutv (I 66 (cl x)) v)) → Q (some (.int 1)) S (up2 (up2 I 65 1 (nI 0)) 65 0 (nI 0)) J' r) : xcall (d + 3) 196 [.ref 65, .int x, .int p, .long v] S I J r Q := by
  have hl := lka_le (I := I) (x := x) (p := p)
  refine E196 hL (r197 hL ?_)
  show xrun z0 _ Q 196 12 [_, _, _, .long v, _] [.int (nI (lka I x p)), .ref 65] S (up2 I 65 1 (nI 0)) J r _ _
  refine K196_12 hL ?_
  by_cases e : lka I x p = 0
  · obtain ⟨a1, a2, a3, a4⟩ := lka_0 t e
    have h1' := h1 e
    refine yes ((up_le0 (by omega)).mpr e) ?_
    rw [e]
    generalize cl x = k at *
    generalize cl p = m at *
    subst a2 a4
    refine ⟨vp_in_nI (by omega) (by decide), ?_⟩
    rw [nI_clamp (by omega), pk_mul, nI_add]
    refine r199 (K196_44 hL ⟨vp_in_nI (by omega) (by decide), ?_⟩)
    rw [nI_clamp (by omega)]
    exact h1' _ (fun q hq => up_o hq) (hT.s a3)
  · exact no (fun q => e ((up_le0 (by omega)).mp q)) (h0 e)
theorem c25 {d : Nat} {Q : XQ} {S : XS} {I : XI} {J : XJ} {r : XR} {x p : Int32} {T : Nat → Nat → Int64} (hL : LAY S r) (t : TR I J) (hT : TC J T) (hQ : Q (some (.long (if lka I x p = 0 then T (cl x) (cl p) else (-1 : Int64)))) S (up2 I 0 13 (nI (lka I x p))) J r) : xcall (d + 4) 25 [.ref 0, .int x, .int p] S I J r Q := by
  have hl := lka_le (I := I) (x := x) (p := p)
  refine E25 hL (c22 hL t (K25_9 hL ?_))
  by_cases e : lka I x p = 0
  · obtain ⟨a1, a2, a3, a4⟩ := lka_0 t e
    rw [if_pos e] at hQ
    rw [e] at hQ ⊢
    generalize cl x = k at *
    generalize cl p = m at *
    subst a2 a4
    refine nno rfl ⟨vp_in_nI (by omega) (by decide), vp_in_nI (by omega) (by decide), ?_⟩
    rw [nI_clamp (by omega), nI_clamp (by omega), hT k a1 m a3]
    exact hQ
  · rw [if_neg e] at hQ
    exact yes (st_1 e (by omega)) hQ
theorem r200 {d : Nat} {Q : XQ} {S : XS} {I : XI} {J : XJ} {r : XR} {x p : Int32} {T : Nat → Nat → Int64} (hL : LAY S r) (t : TR I J) (hT : TM J T) (hQ : Q (some (.long (if lka I x p = 0 then T (cl x) (cl p) else (-1 : Int64)))) S (up2 (up2 I 65 1 (nI 0)) 65 0 (nI (lka I x p))) J r) : xcall (d + 3) 200 [.ref 65, .int x, .int p] S I J r Q := by
  have hl := lka_le (I := I) (x := x) (p := p)
  refine E200 hL (r197 hL ?_)
  show xrun z0 _ Q 200 12 [_, _, _] [.int (nI (lka I x p)), .ref 65] S (up2 I 65 1 (nI 0)) J r _ _
  refine K200_12 hL ?_
  by_cases e : lka I x p = 0
  · obtain ⟨a1, a2, a3, a4⟩ := lka_0 t e
    rw [if_pos e] at hQ
    refine yes ((up_le0 (by omega)).mpr e) ?_
    rw [e] at hQ ⊢
    generalize cl x = k at *
    generalize cl p = m at *
    subst a2 a4
    rw [pk_mul, nI_add, nI_clamp (by omega), hT k a1 m a3]
    exact ⟨vp_in_nI (by omega) (by decide), hQ⟩
  · rw [if_neg e] at hQ
    exact no (fun q => e ((up_le0 (by omega)).mp q)) hQ
/-! pour -/
theorem okx_t {x : Int32} {n : Nat} (h : okx x n) (hn : n ≤ 1000000) : x.toInt = (cl x : Nat) := by
  obtain ⟨p1, p2⟩ := okx_cl h
  have := congrArg Int32.toInt p2
  rw [i_toI (by omega)] at this
  exact this
/-- the status of pour: the data of the reference's rows -/
def s26 (I : XI) (x i y j m : Int32) : Nat := if okx x 4 ∧ okx y 4 then (if (I 67 (cl x)).toInt < 0 ∨ (I 67 (cl y)).toInt < 0 then 3 else if I 66 (cl x) ≠ I 66 (cl y) then 11 else if m.toInt < 0 then 6 else if i.toInt < 0 ∨ j.toInt < 0 ∨ (I 67 (cl x)).toInt < i.toInt + m.toInt ∨ (I 67 (cl y)).toInt < j.toInt + m.toInt then 4 else 0) else 1
theorem s26_le {I : XI} {x i y j m : Int32} : s26 I x i y j m < 12 := by unfold s26; split; split; omega; split; omega; split; omega; split <;> omega; omega
theorem sub_I {a b : Int32} (ha : -1 ≤ a.toInt ∧ a.toInt ≤ 60) (hb : 0 ≤ b.toInt) : (a - b).toInt = a.toInt - b.toInt := by
  have h1 := b.toInt_lt
  rw [Int32.toInt_sub, Int.bmod_eq_of_le] <;> omega
theorem tc_in {T : Nat → Nat → Int64} {t i o j m a b : Nat} : tc T t i o j m a b = if a = o ∧ j ≤ b ∧ b < j + m then T t (i + (b - j)) else T a b := rfl
theorem c26 {d : Nat} {Q : XQ} {S : XS} {I : XI} {J : XJ} {r : XR} {x i y j m : Int32} {T : Nat → Nat → Int64} (hL : LAY S r) (t : TR I J) (hT : TC J T) (h0 : s26 I x i y j m ≠ 0 → Q (some (.int 0)) S (up2 I 0 13 (nI (s26 I x i y j m))) J r)
    (h1 : s26 I x i y j m = 0 → ∀ J', jc J J' → TC J' (tc T (cl x) (cl i) (cl y) (cl j) (cl m)) → Q (some (.int 1)) S (up2 I 0 13 (nI 0)) J' r) : xcall (d + 3) 26 [.ref 0, .int x, .int i, .int y, .int j, .int m] S I J r Q := by
  have hs := s26_le (I := I) (x := x) (i := i) (y := y) (j := j) (m := m)
  have bad : ∀ s, s26 I x i y j m = s → s ≠ 0 → xrun z0 (xcall (d + 2)) Q 26 15 [.ref 0, .int x, .int i, .int y, .int j, .int m] [.int (nI s), .ref 0] S I J r 0 0 := fun s e h => by
    subst e
    exact K26_15 hL (E19 hL (yes (st_1 h (by omega)) (K26_18 ⟨Or.inl rfl, h0 h⟩)))
  have bad' : ∀ s, s26 I x i y j m = s → s ≠ 0 → xrun z0 (xcall (d + 2)) Q 26 15 [.ref 0, .int x, .int i, .int y, .int j, .int m] [.int (nI s), .ref 0] S I J r 0 0 := bad
  refine E26 hL (E27 (c18 (fun k k1 k2 => K27_4 (no (by decide) (c18 (fun n n1 n2 => K27_11 hL (yes (by decide) ?_)) (fun h => K27_11 hL (nno rfl (bad 1 (by unfold s26; rw [if_neg (fun q => h q.2)]) (by decide))))))) (fun h => K27_4 (yes rfl (bad 1 (by unfold s26; rw [if_neg (fun q => h q.1)]) (by decide))))))
  have hx : okx x 4 := by rw [k2]; exact okx_nI k1 (by decide)
  have hy : okx y 4 := by rw [n2]; exact okx_nI n1 (by decide)
  have ex : cl x = k := by rw [k2]; exact cl_nI (by omega)
  have ey : cl y = n := by rw [n2]; exact cl_nI (by omega)
  obtain ⟨a1, a2, a3, a4⟩ := t k k1
  obtain ⟨b1, b2, b3, b4⟩ := t n n1
  have hk := t.n k1
  have hn := t.n n1
  have v1 : vp_in x 4 := by rw [k2]; exact vp_in_nI (by omega) (by decide)
  have v2 : vp_in y 4 := by rw [n2]; exact vp_in_nI (by omega) (by decide)
  have xk : x.toNatClampNeg = k := ex
  have yn : y.toNatClampNeg = n := ey
  have st : s26 I x i y j m = if (I 67 k).toInt < 0 ∨ (I 67 n).toInt < 0 then 3 else if I 66 k ≠ I 66 n then 11 else if m.toInt < 0 then 6 else if i.toInt < 0 ∨ j.toInt < 0 ∨ (I 67 k).toInt < i.toInt + m.toInt ∨ (I 67 n).toInt < j.toInt + m.toInt then 4 else 0 := by
    unfold s26; rw [if_pos ⟨hx, hy⟩, ex, ey]
  obtain ⟨sa, _, sa2, sa3⟩ := a1
  obtain ⟨sb, _, sb2, sb3⟩ := b1
  rw [xk, yn, a2, b2, sa3, sb3, ← sa2, ← sb2]
  refine ⟨v1, fun q => ?_, fun q => ⟨v2, fun q2 => ⟨v1, v2, fun q3 => ⟨fun q4 => ⟨fun q5 => ?_, fun q5 => ⟨fun q6 => ?_, fun q6 => ⟨v1, fun q7 => ?_, fun q7 => ⟨v2, fun q8 => ⟨v1, v2, ?_⟩, fun q8 => ?_⟩⟩⟩⟩, fun q4 => ?_⟩, fun q3 => ?_⟩, fun q2 => ?_⟩⟩
  · rw [i_lt, i_z] at q
    exact bad 3 (by rw [st, if_pos (Or.inl q)]) (by decide)
  all_goals rw [i_lt, i_z] at q
  · rw [i_le, i_z] at q2 q4
    rw [i_lt, i_z] at q5
    exact bad 4 (by rw [st, if_neg (by omega), if_neg (fun h => h q3), if_neg (by omega), if_pos (Or.inl q5)]) (by decide)
  · rw [i_le, i_z] at q2 q4
    rw [i_lt, i_z] at q6
    exact bad 4 (by rw [st, if_neg (by omega), if_neg (fun h => h q3), if_neg (by omega), if_pos (Or.inr (Or.inl q6))]) (by decide)
  · rw [i_le, i_z] at q2 q4
    rw [i_lt, sub_I hk q4] at q7
    exact bad 4 (by rw [st, if_neg (by omega), if_neg (fun h => h q3), if_neg (by omega), if_pos (Or.inr (Or.inr (Or.inl (by omega))))]) (by decide)
  · rw [i_le, i_z] at q2 q4
    rw [i_lt, i_z] at q5 q6
    rw [i_lt, sub_I hk q4] at q7
    rw [i_le, sub_I hn q4] at q8
    have e : s26 I x i y j m = 0 := by rw [st, if_neg (by omega), if_neg (fun h => h q3), if_neg (by omega), if_neg (by omega)]
    have h1' := h1 e
    obtain ⟨i1, i2⟩ := okx_cl (x := i) (n := 61) ⟨by omega, by omega⟩
    obtain ⟨j1, j2⟩ := okx_cl (x := j) (n := 61) ⟨by omega, by omega⟩
    obtain ⟨m1, m2'⟩ := okx_cl (x := m) (n := 61) ⟨by omega, by omega⟩
    rw [ex, ey] at h1'
    have ei : i.toInt = (cl i : Nat) := okx_t (n := 61) ⟨by omega, by omega⟩ (by decide)
    have ej : j.toInt = (cl j : Nat) := okx_t (n := 61) ⟨by omega, by omega⟩ (by decide)
    have em : m.toInt = (cl m : Nat) := okx_t (n := 61) ⟨by omega, by omega⟩ (by decide)
    refine ⟨⟨by rw [i_le, i_z]; omega, by rw [i_le, i_z]; omega, by rw [i_le, i_z]; omega, ?_, ?_⟩, K26_15 hL (E19 hL (nno rfl (K26_18 ⟨Or.inr rfl, h1' _ (fun q hq => ?_) (fun a ha b hb => ?_)⟩)))⟩
    · show cl i + cl m ≤ 60; omega
    · show cl j + cl m ≤ 60; omega
    · funext z
      unfold cp2
      rw [if_neg (by omega)]
    · show cp2 J (5 + k) (cl i) (5 + n) (cl j) (cl m) (5 + a) b = _
      unfold cp2
      rw [tc_in]
      by_cases e1 : a = n
      · subst e1
        rw [if_pos rfl]
        by_cases e2 : cl j ≤ b ∧ b < cl j + cl m
        · rw [if_pos e2, if_pos ⟨rfl, e2⟩]
          exact hT k k1 _ (by omega)
        · rw [if_neg e2, if_neg (fun h => e2 h.2)]
          exact hT a ha b hb
      · rw [if_neg (by omega), if_neg (fun h => e1 h.1)]
        exact hT a ha b hb
  · rw [i_le, i_z] at q2 q4
    rw [i_le, sub_I hn q4] at q8
    exact bad 4 (by rw [st, if_neg (by omega), if_neg (fun h => h q3), if_neg (by omega), if_pos (Or.inr (Or.inr (Or.inr (by omega))))]) (by decide)
  · rw [i_le, i_z] at q2 q4
    exact bad 6 (by rw [st, if_neg (by omega), if_neg (fun h => h q3), if_pos (by omega)]) (by decide)
  · rw [i_le, i_z] at q2
    exact bad 11 (by rw [st, if_neg (by omega), if_pos q3]) (by decide)
  · rw [i_le, i_z] at q2
    exact bad 3 (by rw [st, if_pos (Or.inr (by omega))]) (by decide)
