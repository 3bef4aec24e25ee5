theorem k201 {d : Nat} {Q : XQ} {S : XS} {I : XI} {J : XJ} {r : XR} {cu su t o i j m : Nat} {T : Nat → Nat → Int64} {b : Bool} (hL : LAY S r) (ht : t < 4) (ho : o < 4) (hi : i + m ≤ 60) (hj : j + m ≤ 60) (hb : (b = true ∧ i < j) ∨ (b = false ∧ j ≤ i))
    (hQ : ∀ J', jf 68 J J' → TM J' (tc T t i o j m) → Q (some (.int 1)) S I J' r) :
    ∀ n k J1 w8, k + n = m → jf 68 J J1 → TM J1 (if b = true then tc T t (i + m - k) o (j + m - k) k else tc T t i o j k) → xrun z0 (xcall d) Q 201 158 [.ref 65, .int (nI t), .int (nI i), .int (nI o), .int (nI j), .int (nI m), .int (if b = true then 1 else 0), .int (nI k), w8] [] S I J1 r cu su
  | 0, k, J1, w8, hk, g, e => by
    have e1 : k = m := by omega
    subst e1
    refine K201_158 hL (yes (Int32.le_refl _) (hQ J1 g ?_))
    cases b
    · exact e
    · rw [if_pos rfl, Nat.add_sub_cancel, Nat.add_sub_cancel] at e; exact e
  | n + 1, k, J1, w8, hk, g, e => by
    refine K201_158 hL (no (by rw [nI_leI (by omega) (by omega)]; omega) ?_)
    cases b
    · have hij : j ≤ i := by rcases hb with h | h; cases h.1; exact h.2
      rw [if_neg (by decide)] at e ⊢
      refine yes rfl ?_
      simp only [pk_mul, nI_add]
      rw [nI_clamp (by omega), nI_clamp (by omega)]
      refine ⟨vp_in_nI (by omega) (by decide), vp_in_nI (by omega) (by decide), ?_⟩
      have h1 : J1 68 (60 * t + i + k) = T t (i + k) := by
        have := e t ht (i + k) (by omega)
        rw [← Nat.add_assoc] at this
        rw [this, tc_in, if_neg (fun h => by omega)]
      have ih := k201 (d := d) (cu := cu) (su := su) (b := false) hL ht ho hi hj hb hQ n (k + 1) (up2 J1 68 (60 * o + j + k) (J1 68 (60 * t + i + k))) (.int (nI k)) (by omega) (fun q hq => by rw [up_o hq]; exact g q hq) (by
        rw [if_neg (by decide), h1, Nat.add_assoc]
        refine (e.s (t := o) (p := j + k) (by omega)).c (fun a ha c hc => ?_)
        unfold ts
        rw [tc_in, tc_in]
        by_cases q : a = o ∧ c = j + k
        · rw [if_pos q, if_pos ⟨q.1, by omega, by omega⟩, q.2]; congr 1; omega
        · rw [if_neg q]
          by_cases q2 : a = o ∧ j ≤ c ∧ c < j + k
          · rw [if_pos q2, if_pos ⟨q2.1, q2.2.1, by omega⟩]
          · rw [if_neg q2, if_neg (fun h => by
              by_cases q3 : c = j + k
              · exact q ⟨h.1, q3⟩
              · exact q2 ⟨h.1, h.2.1, by omega⟩)])
      rw [if_neg (by decide)] at ih
      exact ih
    · have hij : i < j := by rcases hb with h | h; exact h.2; cases h.1
      rw [if_pos rfl] at e ⊢
      refine no (by decide) ?_
      rw [pk_sub (by omega), pk_sub (by omega)]
      simp only [pk_mul, nI_add]
      rw [nI_clamp (by omega), nI_clamp (by omega)]
      refine ⟨vp_in_nI (by omega) (by decide), vp_in_nI (by omega) (by decide), ?_⟩
      have h1 : J1 68 (60 * t + i + (m - 1 - k)) = T t (i + (m - 1 - k)) := by
        have := e t ht (i + (m - 1 - k)) (by omega)
        rw [← Nat.add_assoc] at this
        rw [this, tc_in, if_neg (fun h => by omega)]
      have ih := k201 (d := d) (cu := cu) (su := su) (b := true) hL ht ho hi hj hb hQ n (k + 1) (up2 J1 68 (60 * o + j + (m - 1 - k)) (J1 68 (60 * t + i + (m - 1 - k)))) (.int (nI (m - 1 - k))) (by omega) (fun q hq => by rw [up_o hq]; exact g q hq) (by
        rw [if_pos rfl, h1, Nat.add_assoc]
        refine (e.s (t := o) (p := j + (m - 1 - k)) (by omega)).c (fun a ha c hc => ?_)
        unfold ts
        rw [tc_in, tc_in]
        by_cases q : a = o ∧ c = j + (m - 1 - k)
        · rw [if_pos q, if_pos ⟨q.1, by omega, by omega⟩, q.2]; congr 1; omega
        · rw [if_neg q]
          by_cases q2 : a = o ∧ j + m - k ≤ c ∧ c < j + m - k + k
          · rw [if_pos q2, if_pos ⟨q2.1, by omega, by omega⟩]; congr 1; omega
          · rw [if_neg q2, if_neg (fun h => by
              by_cases q3 : c = j + (m - 1 - k)
              · exact q ⟨h.1, q3⟩
              · exact q2 ⟨h.1, by omega, by omega⟩)])
      rw [if_pos rfl] at ih
      exact ih
theorem r201 {d : Nat} {Q : XQ} {S : XS} {I : XI} {J : XJ} {r : XR} {x i y j m : Int32} {T : Nat → Nat → Int64} {J0 : XJ} (hL : LAY S r) (t : TR I J0) (hT : TM J T) (h0 : s26 I x i y j m ≠ 0 → Q (some (.int 0)) S (up2 (m2 I) 65 0 (nI (s26 I x i y j m))) J r)
    (h1 : s26 I x i y j m = 0 → ∀ J', jf 68 J J' → TM J' (tc T (cl x) (cl i) (cl y) (cl j) (cl m)) → Q (some (.int 1)) S (m2 I) J' r) : xcall (d + 2) 201 [.ref 65, .int x, .int i, .int y, .int j, .int m] S I J r Q := by
  have z4 : (nI 4).toInt = 4 := rfl
  have b33 : ∀ s, s26 I x i y j m = s → s ≠ 0 → Q (some (.int 0)) S (up2 (m2 I) 65 0 (nI s)) J r := fun s e h => by subst e; exact h0 h
  have n1 : ∀ P : Prop, (okx x 4 ∧ okx y 4 → P) → ¬ P → s26 I x i y j m = 1 := fun P h1 h2 => by unfold s26; rw [if_neg (fun q => h2 (h1 q))]
  refine E201 hL ⟨fun q => E195 hL (K201_33 ⟨Or.inl rfl, b33 1 (n1 (0 ≤ x.toInt) (fun h => h.1.1) (by rw [i_lt, i_z] at q; omega)) (by decide)⟩), fun q => ⟨fun q2 => E195 hL (K201_33 ⟨Or.inl rfl, b33 1 (n1 (x.toInt < 4) (fun h => h.1.2) (by rw [i_le, z4] at q2; omega)) (by decide)⟩), fun q2 => ⟨fun q3 => E195 hL (K201_33 ⟨Or.inl rfl, b33 1 (n1 (0 ≤ y.toInt) (fun h => h.2.1) (by rw [i_lt, i_z] at q3; omega)) (by decide)⟩), fun q3 => ⟨fun q4 => ?_, fun q4 => E195 hL (K201_33 ⟨Or.inl rfl, b33 1 (n1 (y.toInt < 4) (fun h => h.2.2) (by rw [i_lt, z4] at q4; omega)) (by decide)⟩)⟩⟩⟩⟩
  rw [i_lt, i_z] at q q3
  rw [i_le, z4] at q2
  rw [i_lt, z4] at q4
  have hx : okx x 4 := ⟨by omega, by omega⟩
  have hy : okx y 4 := ⟨by omega, by omega⟩
  obtain ⟨x1, x2⟩ := okx_cl hx
  obtain ⟨y1, y2⟩ := okx_cl hy
  have hk := t.n x1
  have hn := t.n y1
  have v1 : vp_in x 4 := by rw [x2]; exact vp_in_nI (by omega) (by decide)
  have v2 : vp_in y 4 := by rw [y2]; exact vp_in_nI (by omega) (by decide)
  have st : s26 I x i y j m = if (I 67 (cl x)).toInt < 0 ∨ (I 67 (cl y)).toInt < 0 then 3 else if I 66 (cl x) ≠ I 66 (cl y) then 11 else if m.toInt < 0 then 6 else if i.toInt < 0 ∨ j.toInt < 0 ∨ (I 67 (cl x)).toInt < i.toInt + m.toInt ∨ (I 67 (cl y)).toInt < j.toInt + m.toInt then 4 else 0 := by
    unfold s26; rw [if_pos ⟨hx, hy⟩]
  have ladd : ∀ a b : Int32, (a.toInt64 + b.toInt64).toInt = a.toInt + b.toInt := fun a b => by
    have h1 := a.toInt_lt; have h2 := a.le_toInt; have h3 := b.toInt_lt; have h4 := b.le_toInt
    rw [Int64.toInt_add, i_l, i_l, Int.bmod_eq_of_le] <;> omega
  refine ⟨v1, fun p => ?_, fun p => ⟨v2, fun p2 => ⟨v1, v2, fun p3 => ⟨fun p4 => ⟨fun p5 => ?_, fun p5 => ⟨fun p6 => ?_, fun p6 => ⟨v1, fun p7 => ?_, fun p7 => ⟨v2, fun p8 => ?_, fun p8 => ?_⟩⟩⟩⟩, fun p4 => ?_⟩, fun p3 => ?_⟩, fun p2 => ?_⟩⟩
  · have p' : I 67 (cl x) < 0 := p
    rw [i_lt, i_z] at p'
    exact E195 hL (K201_57 ⟨Or.inl rfl, b33 3 (by rw [st, if_pos (Or.inl p')]) (by decide)⟩)
  all_goals have p' : ¬ I 67 (cl x) < 0 := p
  all_goals rw [i_lt, i_z] at p'
  all_goals clear p
  · have q2' : (0 : Int32) ≤ I 67 (cl y) := p2
    rw [i_le, i_z] at q2'
    rw [i_le, i_z] at p4
    rw [i_lt, i_z] at p5
    exact E195 hL (K201_141 ⟨Or.inl rfl, b33 4 (by rw [st, if_neg (by omega), if_neg (fun h => h p3), if_neg (by omega), if_pos (Or.inl p5)]) (by decide)⟩)
  · have q2' : (0 : Int32) ≤ I 67 (cl y) := p2
    rw [i_le, i_z] at q2'
    rw [i_le, i_z] at p4
    rw [i_lt, i_z] at p6
    exact E195 hL (K201_141 ⟨Or.inl rfl, b33 4 (by rw [st, if_neg (by omega), if_neg (fun h => h p3), if_neg (by omega), if_pos (Or.inr (Or.inl p6))]) (by decide)⟩)
  · have q2' : (0 : Int32) ≤ I 67 (cl y) := p2
    have q7 : 0 < lg_cmp (i.toInt64 + m.toInt64) (I 67 (cl x)).toInt64 := p7
    rw [i_cmp2, ladd, i_l] at q7
    rw [i_le, i_z] at q2'
    rw [i_le, i_z] at p4
    exact E195 hL (K201_141 ⟨Or.inl rfl, b33 4 (by rw [st, if_neg (by omega), if_neg (fun h => h p3), if_neg (by omega), if_pos (Or.inr (Or.inr (Or.inl (by omega))))]) (by decide)⟩)
  · have q2' : (0 : Int32) ≤ I 67 (cl y) := p2
    have q7 : ¬ 0 < lg_cmp (i.toInt64 + m.toInt64) (I 67 (cl x)).toInt64 := p7
    have q8 : ¬ 0 < lg_cmp (j.toInt64 + m.toInt64) (I 67 (cl y)).toInt64 := fun h => by
      have p8' : lg_cmp (j.toInt64 + m.toInt64) (I 67 (cl y)).toInt64 ≤ 0 := p8
      rw [i_le, i_z] at p8'
      rw [i_lt, i_z] at h
      omega
    rw [i_cmp2, ladd, i_l] at q7 q8
    rw [i_le, i_z] at q2'
    rw [i_le, i_z] at p4
    rw [i_lt, i_z] at p5 p6
    have e : s26 I x i y j m = 0 := by rw [st, if_neg (by omega), if_neg (fun h => h p3), if_neg (by omega), if_neg (by omega)]
    have h1' := h1 e
    have oi : okx i 61 := ⟨by omega, by omega⟩
    have oj : okx j 61 := ⟨by omega, by omega⟩
    have om : okx m 61 := ⟨by omega, by omega⟩
    have ei := okx_t oi (by decide)
    have ej := okx_t oj (by decide)
    have em := okx_t om (by decide)
    obtain ⟨i1, i2⟩ := okx_cl oi
    obtain ⟨j1, j2⟩ := okx_cl oj
    obtain ⟨m1, m2'⟩ := okx_cl om
    have l1 : cl i + cl m ≤ 60 := by omega
    have l2 : cl j + cl m ≤ 60 := by omega
    have key := fun b hb => k201 (d := d + 1) (cu := 0) (su := 0) (Q := Q) (I := m2 I) (T := T) (b := b) hL x1 y1 l1 l2 hb h1' (cl m) 0 J (.float 0) (by omega) (fun _ _ => rfl) (hT.c (fun a _ c _ => by
      cases b
      · rw [if_neg (by decide), tc_in, if_neg (fun h => by omega)]
      · rw [if_pos rfl, tc_in, if_neg (fun h => by omega)]))
    rw [← x2, ← i2, ← y2, ← j2, ← m2'] at key
    by_cases hij : cl j ≤ cl i
    · refine yes (by rw [i_le, ei, ej]; omega) (K201_153 ?_)
      exact key false (Or.inr ⟨rfl, hij⟩)
    · refine no (by rw [i_le, ei, ej]; omega) (K201_153 ?_)
      exact key true (Or.inl ⟨rfl, by omega⟩)
  · have q2' : (0 : Int32) ≤ I 67 (cl y) := p2
    have q8 : 0 < lg_cmp (j.toInt64 + m.toInt64) (I 67 (cl y)).toInt64 := by
      have p8' : ¬ lg_cmp (j.toInt64 + m.toInt64) (I 67 (cl y)).toInt64 ≤ 0 := p8
      rw [i_le, i_z] at p8'
      rw [i_lt, i_z]
      omega
    rw [i_cmp2, ladd, i_l] at q8
    rw [i_le, i_z] at q2'
    rw [i_le, i_z] at p4
    exact E195 hL (K201_141 ⟨Or.inl rfl, b33 4 (by rw [st, if_neg (by omega), if_neg (fun h => h p3), if_neg (by omega), if_pos (Or.inr (Or.inr (Or.inr (by omega))))]) (by decide)⟩)
  · have q2' : (0 : Int32) ≤ I 67 (cl y) := p2
    rw [i_le, i_z] at q2'
    rw [i_le, i_z] at p4
    exact E195 hL (K201_91 ⟨Or.inl rfl, b33 6 (by rw [st, if_neg (by omega), if_neg (fun h => h p3), if_pos (by omega)]) (by decide)⟩)
  · have q2' : (0 : Int32) ≤ I 67 (cl y) := p2
    rw [i_le, i_z] at q2'
    exact E195 hL (K201_79 ⟨Or.inl rfl, b33 11 (by rw [st, if_neg (by omega), if_pos (by exact p3)]) (by decide)⟩)
  · have q2' : ¬ (0 : Int32) ≤ I 67 (cl y) := p2
    rw [i_le, i_z] at q2'
    exact E195 hL (K201_57 ⟨Or.inl rfl, b33 3 (by rw [st, if_pos (Or.inr (by omega))]) (by decide)⟩)
