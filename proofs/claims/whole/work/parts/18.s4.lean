/-! the reference's small methods: its row's words o, o+1 .. are B -/
theorem r259 {d : Nat} {Q : XQ} {S : XS} {I : XI} {J : XJ} {r : XR} (hL : LAY S r) (w : WF (I 70)) (hQ : Q (some (.int (nI (ce (I 70))))) S I J r) : xcall (d + 1) 259 [.ref 65] S I J r Q := by
  refine E259 hL ?_
  rw [w.w.1, w.h.1, pk_mul]
  exact hQ
theorem i_m1n {n : Nat} (h : n < 1000000) : (nI n - nI 1).toInt = (n : Int) - 1 := i_subI h (by decide)
theorem i_mn {n : Nat} (h : n < 1000000) : (nI n - 1).toInt = (n : Int) - 1 := i_subI h (by decide)
theorem i_lN {n : Nat} (h : n < 2147483648) : (lN n).toInt = (n : Int) := lN_toInt h
theorem r267 {d : Nat} {Q : XQ} {S : XS} {I : XI} {J : XJ} {r : XR} {x : Int32} (hL : LAY S r) (w : WF (I 70)) (hT : 0 ≤ x.toInt → x.toInt < ce (I 70) → Q (some (.int 1)) S I J r) (hF : ¬ (0 ≤ x.toInt ∧ x.toInt < ce (I 70)) → Q (some (.int 0)) S I J r) : xcall (d + 2) 267 [.ref 65, .int x] S I J r Q := by
  have hb := ce_le w
  refine E267 hL (r259 hL w (K267_7 (c221 (fun h1 h2 => K267_13 ⟨Or.inr rfl, hT ?_ ?_⟩) (fun h => K267_13 ⟨Or.inl rfl, hF ?_⟩))))
  all_goals simp only [i_l, i_lN (n := 0) (by decide), i_m1n (n := ce (I 70)) (by omega)] at *
  all_goals omega
theorem r267y {d : Nat} {Q : XQ} {S : XS} {I : XI} {J : XJ} {r : XR} {k : Nat} (hL : LAY S r) (w : WF (I 70)) (hk : k < ce (I 70)) (hQ : Q (some (.int 1)) S I J r) : xcall (d + 2) 267 [.ref 65, .int (nI k)] S I J r Q :=
  r267 hL w (fun _ _ => hQ) (fun h => absurd (by have := ce_le w; rw [i_toI (by omega)]; omega) h)
theorem r269 {d : Nat} {Q : XQ} {S : XS} {I : XI} {J : XJ} {r : XR} {x : Int32} (hL : LAY S r) (w : WF (I 70)) (hT : 0 ≤ x.toInt → x.toInt < bn (I 70) 3 → Q (some (.int 1)) S I J r) (hF : ¬ (0 ≤ x.toInt ∧ x.toInt < bn (I 70) 3) → Q (some (.int 0)) S I J r) : xcall (d + 2) 269 [.ref 65, .int x] S I J r Q := by
  have hb := w.c.2
  refine E269 hL ?_
  rw [w.c.1]
  refine c221 (fun h1 h2 => K269_15 ⟨Or.inr rfl, hT ?_ ?_⟩) (fun h => K269_15 ⟨Or.inl rfl, hF ?_⟩)
  all_goals simp only [i_l, i_lN (n := 0) (by decide), i_m1n (n := bn (I 70) 3) (by omega)] at *
  all_goals omega
theorem r269y {d : Nat} {Q : XQ} {S : XS} {I : XI} {J : XJ} {r : XR} {k : Nat} (hL : LAY S r) (w : WF (I 70)) (hk : k < bn (I 70) 3) (hQ : Q (some (.int 1)) S I J r) : xcall (d + 2) 269 [.ref 65, .int (nI k)] S I J r Q :=
  r269 hL w (fun _ _ => hQ) (fun h => absurd (by have := w.c.2; rw [i_toI (by omega)]; omega) h)
theorem r265 {d : Nat} {Q : XQ} {S : XS} {I : XI} {J : XJ} {r : XR} {x : Int32} (hL : LAY S r) (w : WF (I 70)) (hT : 0 ≤ x.toInt → x.toInt < bn (I 70) 2 → Q (some (.int 1)) S I J r) (hF : ¬ (0 ≤ x.toInt ∧ x.toInt < bn (I 70) 2) → Q (some (.int 0)) S I J r) : xcall (d + 2) 265 [.ref 65, .int x] S I J r Q := by
  have hb := w.r.2
  refine E265 hL ?_
  rw [w.r.1]
  refine c221 (fun h1 h2 => K265_15 ⟨Or.inr rfl, hT ?_ ?_⟩) (fun h => K265_15 ⟨Or.inl rfl, hF ?_⟩)
  all_goals simp only [i_l, i_lN (n := 0) (by decide), i_m1n (n := bn (I 70) 2) (by omega)] at *
  all_goals omega
theorem r274 {d : Nat} {Q : XQ} {S : XS} {I : XI} {J : XJ} {r : XR} {x : Int32} (hT : 0 ≤ x.toInt → x.toInt < 4 → Q (some (.int 1)) S I J r) (hF : ¬ (0 ≤ x.toInt ∧ x.toInt < 4) → Q (some (.int 0)) S I J r) : xcall (d + 2) 274 [.ref 65, .int x] S I J r Q := by
  refine E274 (c221 (fun h1 h2 => K274_9 ⟨Or.inr rfl, hT ?_ ?_⟩) (fun h => K274_9 ⟨Or.inl rfl, hF ?_⟩))
  all_goals simp only [i_l, i_lN (n := 0) (by decide), i_lN (n := 3) (by decide)] at *
  all_goals omega
theorem r292 {d : Nat} {Q : XQ} {S : XS} {I : XI} {J : XJ} {r : XR} (hL : LAY S r) (w : WF (I 70)) (hQ : Q (some (.int (nI (2 ^ bn (I 70) 3 - 1)))) S I J r) : xcall (d + 1) 292 [.ref 65] S I J r Q := by
  have hb := w.c.2
  refine E292 hL ?_
  rw [w.c.1, show (nI 1) <<< (nI (bn (I 70) 3) &&& 31) = nI (2 ^ bn (I 70) 3) from bi_pow _ hb, pk_sub (Nat.two_pow_pos _)]
  exact hQ
theorem r291 {d : Nat} {Q : XQ} {S : XS} {I : XI} {J : XJ} {r : XR} {x : Int32} (hL : LAY S r) (w : WF (I 70)) (hT : 0 ≤ x.toInt → x.toInt < (2 ^ bn (I 70) 3 : Nat) → Q (some (.int 1)) S I J r) (hF : ¬ (0 ≤ x.toInt ∧ x.toInt < (2 ^ bn (I 70) 3 : Nat)) → Q (some (.int 0)) S I J r) : xcall (d + 2) 291 [.ref 65, .int x] S I J r Q := by
  have hb := pow_le w.c.2
  have hp : 0 < 2 ^ bn (I 70) 3 := Nat.two_pow_pos _
  refine E291 hL (r292 hL w (K291_7 (c221 (fun h1 h2 => K291_11 ⟨Or.inr rfl, hT ?_ ?_⟩) (fun h => K291_11 ⟨Or.inl rfl, hF ?_⟩))))
  all_goals simp only [i_l, i_lN (n := 0) (by decide), i_toI (n := 2 ^ bn (I 70) 3 - 1) (by omega)] at *
  all_goals omega
theorem shl_ve {x : Int32} (h : x = 0 ∨ x = 1) (k : Nat) (hk : k < 32) : x <<< (nI k &&& 31) = if x = 1 then bi k else 0 := by
  rcases h with rfl | rfl
  · rw [if_neg (by decide)]
    apply b_ext
    intro i hi
    rw [b_shl k hk _ hi, b_0, b_0, Bool.and_false]
  · rw [if_pos rfl]; rfl
theorem k262 {d : Nat} {Q : XQ} {S : XS} {I : XI} {J : XJ} {r : XR} {cu su : Nat} (hL : LAY S r) (w : WF (I 70)) (hQ : Q (some (.int (vset (I 70)))) S I J r) : ∀ j i, i + j = bn (I 70) 3 → xrun z0 (xcall d) Q 262 4 [.ref 65, .int (orN (fun k => if I 70 (61 + k) = 1 then bi k else 0) i), .int (nI i)] [] S I J r cu su
  | 0, i, hi => by
    have hb := w.c.2
    have e : i = bn (I 70) 3 := by omega
    subst e
    refine K262_4 hL (yes ?_ hQ)
    rw [w.c.1]; exact Int32.le_refl _
  | j + 1, i, hi => by
    have hb := w.c.2
    have ih := k262 (d := d) (cu := cu) (su := su) hL w hQ j (i + 1) (by omega)
    rw [orN] at ih
    refine K262_4 hL (no ?_ ?_)
    · rw [w.c.1, nI_leI (by omega) (by omega)]; omega
    rw [nI_add, nI_add, nI_clamp (by omega), shl_ve (w.ve (by omega)) i (by omega)]
    exact ⟨vp_in_nI (by omega) (by decide), ih⟩
theorem r262 {d : Nat} {Q : XQ} {S : XS} {I : XI} {J : XJ} {r : XR} (hL : LAY S r) (w : WF (I 70)) (hQ : Q (some (.int (vset (I 70)))) S I J r) : xcall (d + 1) 262 [.ref 65] S I J r Q := E262 (k262 hL w hQ (bn (I 70) 3) 0 (by omega))
theorem k263 {d : Nat} {Q : XQ} {S : XS} {I : XI} {J : XJ} {r : XR} {cu su : Nat} (hL : LAY S r) (w : WF (I 70)) (hQ : Q (some (.int (rset (I 70)))) S I J r) : ∀ j i, i + j = bn (I 70) 2 → xrun z0 (xcall d) Q 263 4 [.ref 65, .int (orN (fun q => bi (bn (I 70) (7 + q))) i), .int (nI i)] [] S I J r cu su
  | 0, i, hi => by
    have hb := w.r.2
    have e : i = bn (I 70) 2 := by omega
    subst e
    refine K263_4 hL (yes ?_ hQ)
    rw [w.r.1]; exact Int32.le_refl _
  | j + 1, i, hi => by
    have hb := w.r.2
    have ih := k263 (d := d) (cu := cu) (su := su) hL w hQ j (i + 1) (by omega)
    rw [orN] at ih
    refine K263_4 hL (no ?_ ?_)
    · rw [w.r.1, nI_leI (by omega) (by omega)]; omega
    rw [nI_add, nI_add, nI_clamp (by omega), (w.cl (r := i) (by omega)).1]
    exact ⟨vp_in_nI (by omega) (by decide), ih⟩
theorem r263 {d : Nat} {Q : XQ} {S : XS} {I : XI} {J : XJ} {r : XR} (hL : LAY S r) (w : WF (I 70)) (hQ : Q (some (.int (rset (I 70)))) S I J r) : xcall (d + 1) 263 [.ref 65] S I J r Q := E263 (k263 hL w hQ (bn (I 70) 2) 0 (by omega))
theorem k229 {d : Nat} {Q : XQ} {S : XS} {I : XI} {J : XJ} {r : XR} {cu su b x : Nat} {w1 : Value} {B : Nat → Int32} (hL : LAY S r) (hb4 : b ≤ 4) (hB : ∀ i, i < 345 → I 70 (345 * b + i) = B i) (w : WF B) (hx : x < 1000000) (h1 : ∀ q, q < bn B 2 → bn B (7 + q) = x → Q (some (.int (nI q))) S I J r) (h2 : (∀ q, q < bn B 2 → bn B (7 + q) ≠ x) → Q (some (.int (-1))) S I J r) : ∀ j i, i + j = bn B 2 → (∀ q, q < i → bn B (7 + q) ≠ x) → xrun z0 (xcall d) Q 229 9 [.ref 65, w1, .int (nI x), .int (nI (345 * b)), .int (nI i)] [] S I J r cu su
  | 0, i, hi, hn => by
    have hb := w.r.2
    refine K229_9 hL ?_
    rw [nI_add, nI_clamp (by omega), hB 2 (by decide), w.r.1]
    refine ⟨vp_in_nI (by omega) (by decide), yes ?_ (h2 (fun q hq => hn q (by omega)))⟩
    rw [nI_leI (by omega) (by omega)]; omega
  | j + 1, i, hi, hn => by
    have hb := w.r.2
    have hc := w.cl (r := i) (by omega)
    refine K229_9 hL ?_
    rw [nI_add, nI_clamp (by omega), hB 2 (by decide), w.r.1, nI_add, nI_add, nI_clamp (by omega), Nat.add_assoc, hB (7 + i) (by omega), hc.1, nI_add]
    refine ⟨vp_in_nI (by omega) (by decide), no ?_ ⟨vp_in_nI (by omega) (by decide), ?_⟩⟩
    · rw [nI_leI (by omega) (by omega)]; omega
    by_cases he : bn B (7 + i) = x
    · exact nno (by rw [he]) (h1 i (by omega) he)
    · refine yes ?_ (k229 hL hb4 hB w hx h1 h2 j (i + 1) (by omega) (fun q hq => ?_))
      · rw [nI_eqI (by omega) (by omega)]; exact he
      · rcases (show q < i ∨ q = i by omega) with q1 | q1
        · exact hn q q1
        · rw [q1]; exact he
theorem r229 {d : Nat} {Q : XQ} {S : XS} {I : XI} {J : XJ} {r : XR} {b x : Nat} {B : Nat → Int32} (hL : LAY S r) (hb4 : b ≤ 4) (hB : ∀ i, i < 345 → I 70 (345 * b + i) = B i) (w : WF B) (hx : x < 1000000) (h1 : ∀ q, q < bn B 2 → bn B (7 + q) = x → Q (some (.int (nI q))) S I J r) (h2 : (∀ q, q < bn B 2 → bn B (7 + q) ≠ x) → Q (some (.int (-1))) S I J r) : xcall (d + 1) 229 [.ref 65, .int (nI b), .int (nI x)] S I J r Q := by
  refine E229 ?_
  rw [pk_mul]
  exact k229 hL hb4 hB w hx h1 h2 (bn B 2) 0 (by omega) (fun q hq => by omega)
theorem hB0 (I : XI) : ∀ i, i < 345 → I 70 (345 * 0 + i) = I 70 i := fun i _ => by rw [Nat.mul_zero, Nat.zero_add]
theorem i_isub {a b c : Nat} {x : Int32} (ha : a < 1000000) (hb : b < 1000000) (hc : c < 1000000) : (nI a - nI b).toInt64.toInt = (a : Int) - b ∧ (nI c - nI 1).toInt64.toInt = (c : Int) - 1 := ⟨by rw [i_l, i_subI ha hb], by rw [i_l, i_m1n hc]⟩
theorem r249 {d : Nat} {Q : XQ} {S : XS} {I : XI} {J : XJ} {r : XR} {b k c : Nat} {B : Nat → Int32} (hL : LAY S r) (hb4 : b ≤ 4) (hB : ∀ i, i < 345 → I 70 (345 * b + i) = B i) (w : 1 ≤ bn B 0 ∧ bn B 0 ≤ 6 ∧ B 0 = nI (bn B 0)) (hk : k < 6) (h37 : B (37 + k) = nI (bn B (37 + k)) ∧ bn B (37 + k) < 1000) (h43 : B (43 + k) = nI (bn B (43 + k)) ∧ bn B (43 + k) < 1000) (h49 : B (49 + k) = nI (bn B (49 + k)) ∧ bn B (49 + k) < 1000) (hc : c < 100000) (hT : inP B k c = true → Q (some (.int 1)) S I J r) (hF : inP B k c = false → Q (some (.int 0)) S I J r) : xcall (d + 2) 249 [.ref 65, .int (nI b), .int (nI k), .int (nI c)] S I J r Q := by
  have m1 : c % bn B 0 < 6 := Nat.lt_of_lt_of_le (Nat.mod_lt _ (by omega)) w.2.1
  have m2 : bn B (37 + k) % bn B 0 < 6 := Nat.lt_of_lt_of_le (Nat.mod_lt _ (by omega)) w.2.1
  have m3 : c / bn B 0 ≤ c := Nat.div_le_self _ _
  have m4 : bn B (37 + k) / bn B 0 ≤ bn B (37 + k) := Nat.div_le_self _ _
  have g0 : I 70 (345 * b) = nI (bn B 0) := by have := hB 0 (by decide); rw [Nat.add_zero] at this; rw [this, w.2.2]
  have e37 : I 70 (345 * b + 37 + k) = nI (bn B (37 + k)) := by rw [Nat.add_assoc, hB _ (by omega), h37.1]
  have e43 : I 70 (345 * b + 43 + k) = nI (bn B (43 + k)) := by rw [Nat.add_assoc, hB _ (by omega), h43.1]
  have e49 : I 70 (345 * b + 49 + k) = nI (bn B (49 + k)) := by rw [Nat.add_assoc, hB _ (by omega), h49.1]
  have v0 : vp_in (nI (345 * b)) 1725 := vp_in_nI (by omega) (by decide)
  have v37 : vp_in (nI (345 * b + 37 + k)) 1725 := vp_in_nI (by omega) (by decide)
  have v43 : vp_in (nI (345 * b + 43 + k)) 1725 := vp_in_nI (by omega) (by decide)
  have v49 : vp_in (nI (345 * b + 49 + k)) 1725 := vp_in_nI (by omega) (by decide)
  have n0 : ¬ nI (bn B 0) = 0 := nI_ne0 (by omega) (by omega)
  have a0 : (nI (345 * b)).toNatClampNeg = 345 * b := nI_clamp (by omega)
  have a37 : (nI (345 * b + 37 + k)).toNatClampNeg = 345 * b + 37 + k := nI_clamp (by omega)
  have a43 : (nI (345 * b + 43 + k)).toNatClampNeg = 345 * b + 43 + k := nI_clamp (by omega)
  have a49 : (nI (345 * b + 49 + k)).toNatClampNeg = 345 * b + 49 + k := nI_clamp (by omega)
  have rc := pk_rem (a := c) (d := bn B 0) (by omega) (by omega) (by omega)
  have rt := pk_rem (a := bn B (37 + k)) (d := bn B 0) (by omega) (by omega) (by omega)
  have dc := pk_div (a := c) (d := bn B 0) (by omega) (by omega) (by omega)
  have dt := pk_div (a := bn B (37 + k)) (d := bn B 0) (by omega) (by omega) (by omega)
  unfold inP at hT hF
  rw [decide_eq_true_eq] at hT
  rw [decide_eq_false_iff_not] at hF
  refine E249 hL ?_
  simp only [pk_mul, nI_add, a0, a37, a43, g0, e37, e43, rc, rt]
  refine ⟨v0, n0, v37, v0, n0, v0, n0, v37, v0, n0, v43, c221 (fun h1 h2 => K249_93 hL (e1 ?_)) (fun h => K249_93 hL (e0 (hF ?_)))⟩
  · simp only [nI_add, a49, e49, dc, dt]
    refine ⟨v49, c221 (fun h3 h4 => K249_118 (e1 (hT ?_))) (fun h => K249_118 (e0 (hF ?_)))⟩
    · rw [i_lN (by decide), i_l, i_subI (by omega) (by omega)] at h1 h3
      rw [i_l, i_l, i_subI (by omega) (by omega), i_m1n (by omega)] at h2 h4
      omega
    · rw [i_lN (by decide), i_l, i_l, i_subI (by omega) (by omega), i_m1n (by omega)] at h
      omega
  · rw [i_lN (by decide), i_l, i_l, i_subI (by omega) (by omega), i_m1n (by omega)] at h
    omega
theorem r249w {d : Nat} {Q : XQ} {S : XS} {I : XI} {J : XJ} {r : XR} {k c : Nat} (hL : LAY S r) (w : WF (I 70)) (hk : k < bn (I 70) 3) (hc : c < 100000) (hT : inP (I 70) k c = true → Q (some (.int 1)) S I J r) (hF : inP (I 70) k c = false → Q (some (.int 0)) S I J r) : xcall (d + 2) 249 [.ref 65, .int (nI 0), .int (nI k), .int (nI c)] S I J r Q := by
  have h1 := w.w
  have h2 := w.h
  have h3 := w.c.2
  have h4 := ce_le w
  have h5 := w.at' hk
  have h6 := w.br hk
  have h7 := w.tl hk
  have h8 := Nat.le_trans (Nat.le_add_left _ _) h7.2.2
  have h9 := Nat.le_trans (Nat.le_add_left _ _) h6.2.2
  exact r249 hL (by decide) (hB0 I) ⟨h1.2.1, h1.2.2, h1.1⟩ (by omega) ⟨h5.1, by omega⟩ ⟨h6.1, by omega⟩ ⟨h7.1, by omega⟩ hc hT hF
theorem k270 {d : Nat} {Q : XQ} {S : XS} {I : XI} {J : XJ} {r : XR} {cu su k : Nat} (hL : LAY S r) (w : WF (I 70)) (hk : k < bn (I 70) 3) (hQ : Q (some (.int (pat (I 70) k))) S I J r) : ∀ j i, i + j = ce (I 70) → xrun z0 (xcall (d + 2)) Q 270 4 [.ref 65, .int (nI k), .int (orN (fun c => if inP (I 70) k c = true then bi c else 0) i), .int (nI i)] [] S I J r cu su
  | 0, i, hi => by
    have hb := ce_le w
    have e : i = ce (I 70) := by omega
    subst e
    exact K270_4 hL (r259 hL w (K270_9 hL (yes (Int32.le_refl _) hQ)))
  | j + 1, i, hi => by
    have hb := ce_le w
    have ih := k270 (d := d) (cu := cu) (su := su) hL w hk hQ j (i + 1) (by omega)
    rw [orN] at ih
    refine K270_4 hL (r259 hL w (K270_9 hL (no ?_ (r249w hL w hk (by omega) (fun q => K270_20 (e1 ?_)) (fun q => K270_20 (e0 ?_))))))
    · rw [nI_leI (by omega) (by omega)]; omega
    · rw [q, if_pos rfl] at ih
      rw [nI_add]; exact ih
    · rw [q, if_neg (by decide)] at ih
      rw [nI_add]; exact ih
theorem r270 {d : Nat} {Q : XQ} {S : XS} {I : XI} {J : XJ} {r : XR} {k : Nat} (hL : LAY S r) (w : WF (I 70)) (hk : k < bn (I 70) 3) (hQ : Q (some (.int (pat (I 70) k))) S I J r) : xcall (d + 3) 270 [.ref 65, .int (nI k)] S I J r Q := E270 (k270 hL w hk hQ (ce (I 70)) 0 (by omega))
theorem k272 {d : Nat} {Q : XQ} {S : XS} {I : XI} {J : XJ} {r : XR} {cu su k : Nat} (hL : LAY S r) (w : WF (I 70)) (hk : k < bn (I 70) 3) (hQ : Q (some (.int (I 70 (67 + k) ||| orN (fun q => if inP (I 70) k (bn (I 70) (7 + q)) = true ∧ bn (I 70) (22 + q) < bn (I 70) (55 + k) then bi (bn (I 70) (7 + q)) else 0) (bn (I 70) 2)))) S I J r) : ∀ j i, i + j = bn (I 70) 2 → xrun z0 (xcall (d + 2)) Q 272 27 [.ref 65, .int (nI k), .int (I 70 (67 + k) ||| orN (fun q => if inP (I 70) k (bn (I 70) (7 + q)) = true ∧ bn (I 70) (22 + q) < bn (I 70) (55 + k) then bi (bn (I 70) (7 + q)) else 0) i), .int (nI i)] [] S I J r cu su
  | 0, i, hi => by
    have e : i = bn (I 70) 2 := by omega
    subst e
    refine K272_27 hL (yes ?_ hQ)
    rw [w.r.1]; exact Int32.le_refl _
  | j + 1, i, hi => by
    have hb := w.r.2
    have hb3 := w.c.2
    have hc := w.cl (r := i) (by omega)
    have hd := w.dp (r := i) (by omega)
    have ht := w.tn hk
    have ih := k272 (d := d) (cu := cu) (su := su) hL w hk hQ j (i + 1) (by omega)
    rw [orN, ← Int32.or_assoc] at ih
    refine K272_27 hL (no ?_ ⟨?_, ?_⟩)
    · rw [w.r.1, nI_leI (by omega) (by omega)]; omega
    · rw [nI_add]; exact vp_in_nI (by omega) (by decide)
    rw [nI_add, nI_clamp (by omega), hc.1]
    refine r249w hL w hk (by omega) (fun q => K272_53 hL (e1 ?_)) (fun q => K272_53 hL (e0 ?_))
    · simp only [nI_add]
      rw [nI_clamp (by omega), nI_clamp (by omega), nI_clamp (by omega), hc.1, hd.1, ht.1]
      refine ⟨vp_in_nI (by omega) (by decide), vp_in_nI (by omega) (by decide), ?_⟩
      by_cases hlt : bn (I 70) (22 + i) < bn (I 70) (55 + k)
      · rw [if_pos ⟨q, hlt⟩] at ih
        refine no ?_ ⟨vp_in_nI (by omega) (by decide), ih⟩
        rw [nI_leI (by omega) (by omega)]; omega
      · rw [if_neg (fun h => hlt h.2)] at ih
        refine yes ?_ ih
        rw [nI_leI (by omega) (by omega)]; omega
    · rw [if_neg (fun h => by rw [q] at h; cases h.1)] at ih
      rw [nI_add]; exact ih
theorem r272 {d : Nat} {Q : XQ} {S : XS} {I : XI} {J : XJ} {r : XR} {k : Nat} (hL : LAY S r) (w : WF (I 70)) (hk : k < bn (I 70) 3) (hQ : Q (some (.int (shown (I 70) k))) S I J r) : xcall (d + 3) 272 [.ref 65, .int (nI k)] S I J r Q := by
  have hb3 := w.c.2
  refine E272 hL ?_
  rw [nI_add, nI_add, nI_clamp (by omega), nI_clamp (by omega)]
  refine ⟨vp_in_nI (by omega) (by decide), vp_in_nI (by omega) (by decide), ?_⟩
  unfold shown at hQ
  rcases w.ve hk with e | e
  · rw [e, if_neg (by decide)] at hQ
    rw [e]
    refine yes (by decide) ?_
    have := k272 (d := d) (cu := 0) (su := 0) hL w hk hQ (bn (I 70) 2) 0 (by omega)
    rw [orN, Int32.or_zero] at this
    exact this
  · rw [e, if_pos rfl] at hQ
    rw [e]
    exact nno rfl hQ
theorem k296 {d : Nat} {Q : XQ} {S : XS} {I : XI} {J : XJ} {r : XR} {cu su : Nat} {x : Int32} (hL : LAY S r) (w : WF (I 70)) (hQ : Q (some (.int (cha (I 70) x))) S I J r) : ∀ j i, i + j = bn (I 70) 3 → xrun z0 (xcall (d + 3)) Q 296 4 [.ref 65, .int x, .int (orN (fun k => if bt x k = true ∧ I 70 (61 + k) = 0 then pat (I 70) k else 0) i), .int (nI i)] [] S I J r cu su
  | 0, i, hi => by
    have e : i = bn (I 70) 3 := by omega
    subst e
    refine K296_4 hL (yes ?_ hQ)
    rw [w.c.1]; exact Int32.le_refl _
  | j + 1, i, hi => by
    have hb := w.c.2
    have ih := k296 (d := d) (cu := cu) (su := su) hL w hQ j (i + 1) (by omega)
    rw [orN] at ih
    refine K296_4 hL (no ?_ (c250 (by omega) (fun q => K296_20 hL (e1 ⟨?_, ?_⟩)) (fun q => K296_20 hL (e0 ?_))))
    · rw [w.c.1, nI_leI (by omega) (by omega)]; omega
    · rw [nI_add]; exact vp_in_nI (by omega) (by decide)
    · simp only [nI_add]
      rw [nI_clamp (by omega)]
      by_cases e : I 70 (61 + i) = 0
      · rw [if_pos ⟨q, e⟩] at ih
        refine nno e (r270 hL w (by omega) (K296_40 ?_))
        rw [nI_add]; exact ih
      · rw [if_neg (fun h => e h.2)] at ih
        exact yes e ih
    · rw [if_neg (fun h => by rw [q] at h; cases h.1)] at ih
      rw [nI_add]; exact ih
theorem r296 {d : Nat} {Q : XQ} {S : XS} {I : XI} {J : XJ} {r : XR} {x : Int32} (hL : LAY S r) (w : WF (I 70)) (hQ : Q (some (.int (cha (I 70) x))) S I J r) : xcall (d + 4) 296 [.ref 65, .int x] S I J r Q := E296 (k296 hL w hQ (bn (I 70) 3) 0 (by omega))
theorem and_not_or (x y z : Int32) : (x &&& (y ^^^ (-1 : Int32))) &&& (z ^^^ (-1 : Int32)) = x &&& ((y ||| z) ^^^ (-1 : Int32)) := by
  apply b_ext
  intro i hi
  rw [b_and, b_and, b_and, bt_not hi, bt_not hi, bt_not hi, b_or]
  cases bt x i <;> cases bt y i <;> cases bt z i <;> rfl
theorem and_m1 (x : Int32) : x &&& (-1 : Int32) = x := by
  apply b_ext
  intro i hi
  rw [b_and, b_m1 i hi, Bool.and_true]
theorem k295 {d : Nat} {Q : XQ} {S : XS} {I : XI} {J : XJ} {r : XR} {cu su : Nat} {x : Int32} (hL : LAY S r) (w : WF (I 70)) (hQ : Q (some (.int (ope (I 70) x))) S I J r) : ∀ j i, i + j = bn (I 70) 3 → xrun z0 (xcall (d + 3)) Q 295 8 [.ref 65, .int x, .int (cha (I 70) x &&& (orN (fun k => if bt x k = true then shown (I 70) k else 0) i ^^^ (-1 : Int32))), .int (nI i)] [] S I J r cu su
  | 0, i, hi => by
    have e : i = bn (I 70) 3 := by omega
    subst e
    refine K295_8 hL (yes ?_ hQ)
    rw [w.c.1]; exact Int32.le_refl _
  | j + 1, i, hi => by
    have hb := w.c.2
    have ih := k295 (d := d) (cu := cu) (su := su) hL w hQ j (i + 1) (by omega)
    rw [orN, ← and_not_or] at ih
    refine K295_8 hL (no ?_ (c250 (by omega) (fun q => K295_24 hL (e1 (r272 hL w (by omega) (K295_32 ?_)))) (fun q => K295_24 hL (e0 ?_))))
    · rw [w.c.1, nI_leI (by omega) (by omega)]; omega
    · rw [if_pos q] at ih
      rw [nI_add]; exact ih
    · rw [if_neg (by rw [q]; decide)] at ih
      rw [show ((0 : Int32) ^^^ (-1)) = -1 from by decide, and_m1] at ih
      rw [nI_add, and_m1]; exact ih
theorem r295 {d : Nat} {Q : XQ} {S : XS} {I : XI} {J : XJ} {r : XR} {x : Int32} (hL : LAY S r) (w : WF (I 70)) (hQ : Q (some (.int (ope (I 70) x))) S I J r) : xcall (d + 5) 295 [.ref 65, .int x] S I J r Q := by
  refine E295 hL (r296 hL w (K295_5 ?_))
  have := k295 (d := d + 1) (cu := 0) (su := 0) hL w hQ (bn (I 70) 3) 0 (by omega)
  rw [orN, show ((0 : Int32) ^^^ (-1)) = -1 from by decide, and_m1] at this
  exact this
