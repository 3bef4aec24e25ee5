/-! trays, what was seen -/
def TR (I : XI) (J : XJ) : Prop := ∀ t, t < 4 → (∃ s, s < 4 ∧ I 66 t = nI s ∧ I 9 t = nI s) ∧ I 10 t = I 67 t ∧ (I 67 t = -1 ∨ ∃ n, n ≤ 60 ∧ I 67 t = nI n) ∧ ∀ i, i < 60 → J (5 + t) i = J 68 (60 * t + i)
theorem TR.n {I : XI} {J : XJ} (h : TR I J) {t : Nat} (ht : t < 4) : -1 ≤ (I 67 t).toInt ∧ (I 67 t).toInt ≤ 60 := by
  rcases (h t ht).2.2.1 with q | ⟨n, h1, q⟩
  · rw [q]; decide
  · rw [q, i_toI (by omega)]; omega
theorem c18 {d : Nat} {Q : XQ} {S : XS} {I : XI} {J : XJ} {r : XR} {x : Int32} (hT : ∀ k, k < 4 → x = nI k → Q (some (.int 1)) S I J r) (hF : ¬ okx x 4 → Q (some (.int 0)) S I J r) : xcall (d + 1) 18 [.int x] S I J r Q := by
  refine E18 ⟨fun c => hF ?_, fun c => ⟨fun c2 => hF ?_, fun c2 => ?_⟩⟩
  · rw [i_lt, i_z] at c; rintro ⟨q1, q2⟩; omega
  · rw [i_le, i_toI (by decide)] at c2; rintro ⟨q1, q2⟩; omega
  · rw [i_lt, i_z] at c
    rw [i_le, i_toI (by decide)] at c2
    obtain ⟨k, h1, h2, _⟩ := i_in (x := x) (n := 4) (by omega) (by omega)
    exact hT k h1 h2
/-- why a tray has not so many numbers -/
def lkf (I : XI) (x n : Int32) : Nat := if okx x 4 then (if (I 67 (cl x)).toInt < 0 then 3 else if n.toInt ≤ (I 67 (cl x)).toInt then 0 else 4) else 1
theorem lkf_le {I : XI} {x n : Int32} : lkf I x n < 5 := by unfold lkf; split; split; omega; split <;> omega; omega
theorem cl_nI {k : Nat} (h : k < 2147483648) : cl (nI k) = k := nI_clamp h
theorem c23 {d : Nat} {Q : XQ} {S : XS} {I : XI} {J : XJ} {r : XR} {x n : Int32} {J0 : XJ} (hL : LAY S r) (t : TR I J0) (hQ : Q (some (.int (nI (lkf I x n)))) S I J r) : xcall (d + 2) 23 [.ref 3, .int x, .int n] S I J r Q := by
  unfold lkf at hQ
  refine E23 (c18 (fun k h1 h2 => K23_4 hL (yes (by decide) ?_)) (fun h => K23_4 hL (nno rfl ?_)))
  · rw [if_pos (by rw [h2]; exact okx_nI h1 (by decide))] at hQ
    subst h2
    rw [cl_nI (by omega)] at hQ
    refine ⟨vp_in_nI (by omega) (by decide), ?_⟩
    rw [nI_clamp (by omega), (t k h1).2.1]
    by_cases q : (I 67 k).toInt < 0
    · rw [if_pos q] at hQ
      exact no (by rw [i_le, i_z]; omega) hQ
    · rw [if_neg q] at hQ
      refine yes (by rw [i_le, i_z]; omega) ⟨vp_in_nI (by omega) (by decide), ?_⟩
      by_cases q2 : n.toInt ≤ (I 67 k).toInt
      · rw [if_pos q2] at hQ; exact yes (by rw [i_le]; exact q2) hQ
      · rw [if_neg q2] at hQ; exact no (by rw [i_le]; exact q2) hQ
  · rw [if_neg h] at hQ; exact hQ
abbrev plok (J : XJ) (x n m : Nat) : Prop := ∀ i, i < n → 0 ≤ (J 68 (60 * x + i)).toInt ∧ (J 68 (60 * x + i)).toInt < (m : Int)
abbrev okr (x : Int32) (lo hi : Int) : Prop := lo ≤ x.toInt ∧ x.toInt ≤ hi
def wnf (I : XI) (J : XJ) (x n w h : Int32) : Nat := if lkf I x n ≠ 0 then lkf I x n else if okx n 21 ∧ okr w 1 6 ∧ okr h 1 5 ∧ plok J (cl x) (cl n) (cl w * cl h) then 0 else 5
theorem wnf_le {I : XI} {J : XJ} {x n w h : Int32} : wnf I J x n w h < 6 := by have := lkf_le (I := I) (x := x) (n := n); unfold wnf; split; omega; split <;> omega
theorem okr_cl {x : Int32} {lo hi : Nat} (h : okr x lo hi) (hh : hi < 1000000) : lo ≤ cl x ∧ cl x ≤ hi ∧ x = nI (cl x) := by
  have h1 := h.1
  have h2 := h.2
  have h3 : okx x (hi + 1) := ⟨by omega, by omega⟩
  obtain ⟨k, k1, k2, k3⟩ := okx_is h3
  unfold cl
  rw [k3]
  refine ⟨?_, by omega, k2⟩
  rw [k2, i_toI (by omega)] at h1
  omega
theorem lkf_0 {I : XI} {x n : Int32} (h : lkf I x n = 0) : cl x < 4 ∧ x = nI (cl x) ∧ 0 ≤ (I 67 (cl x)).toInt ∧ n.toInt ≤ (I 67 (cl x)).toInt := by
  unfold lkf at h
  split at h
  · rename_i h1
    obtain ⟨p1, p2⟩ := okx_cl h1
    split at h
    · cases h
    · split at h
      · exact ⟨p1, p2, by omega, by assumption⟩
      · cases h
  · cases h
theorem k153 {d : Nat} {Q : XQ} {S : XS} {I : XI} {J : XJ} {r : XR} {cu su x n p q : Nat} (hL : LAY S r) (t : TR I J) (hx : x < 4) (hn : n ≤ 20) (hp : p ≤ 6) (hq : q ≤ 5) (h0 : plok J x n (p * q) → Q (some (.int (nI 0))) S I J r) (h5 : ¬ plok J x n (p * q) → Q (some (.int (nI 5))) S I J r) :
    ∀ j i w5 w7 w8, i + j = n → (∀ m, m < i → 0 ≤ (J 68 (60 * x + m)).toInt ∧ (J 68 (60 * x + m)).toInt < ((p * q : Nat) : Int)) → xrun z0 (xcall d) Q 153 43 [.ref 0, .int (nI x), .int (nI n), .int (nI p), .int (nI q), w5, .int (nI i), w7, w8] [] S I J r cu su
  | 0, i, w5, w7, w8, hi, hh => by
    have e : i = n := by omega
    subst e
    exact K153_43 hL (yes (Int32.le_refl _) (h0 hh))
  | j + 1, i, w5, w7, w8, hi, hh => by
    have hpq : p * q ≤ 30 := Nat.le_trans (Nat.mul_le_mul hp hq) (by decide)
    have hz : (lN 0).toInt = 0 := rfl
    refine K153_43 hL (no (by rw [nI_leI (by omega) (by omega)]; omega) ⟨vp_in_nI (by omega) (by decide), vp_in_nI (by omega) (by decide), ?_⟩)
    rw [nI_clamp (by omega), nI_clamp (by omega), (t x hx).2.2.2 i (by omega), pk_mul, nI_add]
    by_cases q1 : (J 68 (60 * x + i)).toInt < 0
    · refine yes (by rw [i_cmp, hz]; exact q1) (h5 (fun h => ?_))
      have := (h i (by omega)).1
      omega
    · refine no (by rw [i_cmp, hz]; exact q1) ?_
      by_cases q2 : (J 68 (60 * x + i)).toInt < ((p * q : Nat) : Int)
      · refine yes (by rw [i_cmp, i_l, i_toI (by omega)]; exact q2) (k153 hL t hx hn hp hq h0 h5 j (i + 1) _ _ _ (by omega) (fun m hm => ?_))
        rcases Nat.lt_or_ge m i with q3 | q3
        · exact hh m q3
        · have : m = i := by omega
          subst this; exact ⟨by omega, q2⟩
      · exact no (by rw [i_cmp, i_l, i_toI (by omega)]; exact q2) (h5 (fun h => q2 (h i (by omega)).2))
theorem c154 {d : Nat} {Q : XQ} {S : XS} {I : XI} {J : XJ} {r : XR} {w h : Int32} (hT : okr w 1 6 → okr h 1 5 → Q (some (.int 1)) S I J r) (hF : ¬ (okr w 1 6 ∧ okr h 1 5) → Q (some (.int 0)) S I J r) : xcall (d + 2) 154 [.int w, .int h] S I J r Q := by
  refine E154 (c101 (fun h1 h2 => K154_7 (no (by decide) (c101 (fun h3 h4 => K154_16 (no (by decide) (hT ⟨h1, h2⟩ ⟨h3, h4⟩))) (fun q => K154_16 (yes rfl (hF (fun p => q p.2))))))) (fun q => K154_7 (yes rfl (hF (fun p => q p.1)))))
theorem c153 {d : Nat} {Q : XQ} {S : XS} {I : XI} {J : XJ} {r : XR} {x n w h : Int32} (hL : LAY S r) (t : TR I J) (hQ : Q (some (.int (nI (wnf I J x n w h)))) S I J r) : xcall (d + 3) 153 [.ref 0, .int x, .int n, .int w, .int h] S I J r Q := by
  have hl := lkf_le (I := I) (x := x) (n := n)
  unfold wnf at hQ
  refine E153 hL (c23 hL t (K153_9 ?_))
  by_cases q : lkf I x n = 0
  · rw [if_neg (fun p => p q)] at hQ
    rw [q]
    obtain ⟨l1, l2, l3, l4⟩ := lkf_0 q
    refine yes rfl (c101 (fun h1 h2 => K153_26 (no (by decide) (c154 (fun h3 h4 => K153_35 (yes (by decide) ?_)) (fun h3 => K153_35 (nno rfl ?_))))) (fun h1 => K153_26 (yes rfl ?_)))
    · have z0' : (nI 0).toInt = 0 := rfl
      have z20 : (nI 20).toInt = 20 := rfl
      have hn : okx n 21 := ⟨by omega, by omega⟩
      obtain ⟨n1, n2⟩ := okx_cl hn
      obtain ⟨p1, p2, p3⟩ := okr_cl (lo := 1) (hi := 6) h3 (by decide)
      obtain ⟨p4, p5, p6⟩ := okr_cl (lo := 1) (hi := 5) h4 (by decide)
      have key := fun h0 h5 => k153 (d := d + 2) (cu := 0) (su := 0) (Q := Q) (x := cl x) (n := cl n) (p := cl w) (q := cl h) hL t l1 (by omega) p2 p5 h0 h5 (cl n) 0 (xkp (.int (nI 0))) (.float 0) (.float 0) (by omega) (fun m hm => by omega)
      rw [← l2, ← n2, ← p3, ← p6] at key
      refine key (fun h5 => ?_) (fun h5 => ?_)
      · rw [if_pos ⟨hn, h3, h4, h5⟩] at hQ; exact hQ
      · rw [if_neg (fun p => h5 p.2.2.2)] at hQ; exact hQ
    · rw [if_neg (fun p => h3 ⟨p.2.1, p.2.2.1⟩)] at hQ; exact hQ
    · rw [if_neg (fun p => h1 (by
        have z0' : (nI 0).toInt = 0 := rfl
        have z20 : (nI 20).toInt = 20 := rfl
        have := p.1.1; have := p.1.2; omega))] at hQ; exact hQ
  · rw [if_pos q] at hQ
    exact no (fun p => q ((nI_eq (by omega) (by decide)).mp p)) hQ
theorem r321 {d : Nat} {Q : XQ} {S : XS} {I : XI} {J : XJ} {r : XR} {x i : Nat} (hL : LAY S r) (hx : x < 4) (hi : i < 60) (hQ : Q (some (.long (J 68 (60 * x + i)))) S I J r) : xcall (d + 1) 321 [.ref 65, .int (nI x), .int (nI i)] S I J r Q := by
  refine E321 hL ?_
  rw [pk_mul, nI_add, nI_clamp (by omega)]
  exact ⟨vp_in_nI (by omega) (by decide), hQ⟩
theorem k320 {d : Nat} {Q : XQ} {S : XS} {I : XI} {J : XJ} {r : XR} {cu su x n p q : Nat} (hL : LAY S r) (hx : x < 4) (hn : n ≤ 20) (hp : p ≤ 6) (hq : q ≤ 5) (hpq0 : 1 ≤ p * q) (h0 : plok J x n (p * q) → Q (some (.int (nI 0))) S I J r) (h5 : ¬ plok J x n (p * q) → Q (some (.int (nI 5))) S I J r) :
    ∀ j i, i + j = n → (∀ m, m < i → 0 ≤ (J 68 (60 * x + m)).toInt ∧ (J 68 (60 * x + m)).toInt < ((p * q : Nat) : Int)) → xrun z0 (xcall (d + 1)) Q 320 75 [.ref 65, .int (nI x), .int (nI n), .int (nI p), .int (nI q), .int (nI i)] [] S I J r cu su
  | 0, i, hi, hh => by
    have e : i = n := by omega
    subst e
    exact K320_75 hL (yes (Int32.le_refl _) (h0 hh))
  | j + 1, i, hi, hh => by
    have hpq : p * q ≤ 30 := Nat.le_trans (Nat.mul_le_mul hp hq) (by decide)
    have hz : (lN 0).toInt = 0 := rfl
    refine K320_75 hL (no (by rw [nI_leI (by omega) (by omega)]; omega) (r321 hL hx (by omega) (K320_88 ?_)))
    rw [pk_mul, pk_sub (by omega)]
    refine c221 (fun h1 h2 => K320_99 (yes (by decide) ?_)) (fun h1 => K320_99 (nno rfl (h5 (fun h => h1 ?_))))
    · rw [hz] at h1
      rw [i_l, i_toI (by omega)] at h2
      rw [nI_add]
      refine k320 hL hx hn hp hq hpq0 h0 h5 j (i + 1) (by omega) (fun m hm => ?_)
      rcases Nat.lt_or_ge m i with q3 | q3
      · exact hh m q3
      · have : m = i := by omega
        subst this; exact ⟨h1, by omega⟩
    · have := h i (by omega)
      rw [hz, i_l, i_toI (by omega)]
      omega
theorem r320 {d : Nat} {Q : XQ} {S : XS} {I : XI} {J : XJ} {r : XR} {x n w h : Int32} (hL : LAY S r) (t : TR I J) (hQ : Q (some (.int (nI (wnf I J x n w h)))) S I J r) : xcall (d + 3) 320 [.ref 65, .int x, .int n, .int w, .int h] S I J r Q := by
  have hl := lkf_le (I := I) (x := x) (n := n)
  unfold wnf lkf at hQ
  have z0' : (lN 0).toInt = 0 := rfl
  have z1' : (lN 1).toInt = 1 := rfl
  have z5' : (lN 5).toInt = 5 := rfl
  have z6' : (lN 6).toInt = 6 := rfl
  have z20 : (lN 20).toInt = 20 := rfl
  refine E320 hL (r274 (fun h1 h2 => K320_5 hL (yes (by decide) ?_)) (fun h => K320_5 hL (nno rfl ?_)))
  · have hx : okx x 4 := ⟨h1, h2⟩
    obtain ⟨x1, x2⟩ := okx_cl hx
    rw [if_pos hx] at hQ
    rw [x2]
    generalize cl x = x' at *
    refine ⟨vp_in_nI (by omega) (by decide), ?_⟩
    rw [nI_clamp (by omega)]
    by_cases q : (I 67 x').toInt < 0
    · rw [if_pos q] at hQ
      exact no (by rw [i_le, i_z]; omega) hQ
    · rw [if_neg q] at hQ
      refine yes (by rw [i_le, i_z]; omega) ⟨vp_in_nI (by omega) (by decide), ?_⟩
      by_cases q2 : n.toInt ≤ (I 67 x').toInt
      · rw [if_pos q2, if_neg (by decide)] at hQ
        refine yes (by rw [i_le]; exact q2) (c221 (fun h3 h4 => K320_42 (no (by decide) (c221 (fun h5 h6 => K320_54 (no (by decide) (c221 (fun h7 h8 => K320_67 (yes (by decide) ?_)) (fun h7 => K320_67 (nno rfl ?_))))) (fun h5 => K320_54 (yes rfl ?_))))) (fun h3 => K320_42 (yes rfl ?_)))
        · rw [i_l] at h3 h4 h5 h6 h7 h8
          have hn : okx n 21 := ⟨by omega, by omega⟩
          have hw : okr w 1 6 := ⟨by omega, by omega⟩
          have hh : okr h 1 5 := ⟨by omega, by omega⟩
          obtain ⟨n1, n2⟩ := okx_cl hn
          obtain ⟨p1, p2, p3⟩ := okr_cl (lo := 1) (hi := 6) hw (by decide)
          obtain ⟨p4, p5, p6⟩ := okr_cl (lo := 1) (hi := 5) hh (by decide)
          have key := fun h0 h5 => k320 (d := d + 1) (cu := 0) (su := 0) (Q := Q) (I := I) (J := J) (x := x') (n := cl n) (p := cl w) (q := cl h) hL x1 (by omega) p2 p5 (Nat.mul_pos p1 p4) h0 h5 (cl n) 0 (by omega) (fun m hm => by omega)
          rw [← n2, ← p3, ← p6] at key
          refine key (fun h5 => ?_) (fun h5 => ?_)
          · rw [if_pos ⟨hn, hw, hh, h5⟩] at hQ; exact hQ
          · rw [if_neg (fun p => h5 p.2.2.2)] at hQ; exact hQ
        · rw [i_l] at h7
          rw [if_neg (fun p => h7 (by have := p.2.2.1.1; have := p.2.2.1.2; omega))] at hQ; exact hQ
        · rw [i_l] at h5
          rw [if_neg (fun p => h5 (by have := p.2.1.1; have := p.2.1.2; omega))] at hQ; exact hQ
        · rw [i_l] at h3
          rw [if_neg (fun p => h3 (by have := p.1.1; have := p.1.2; omega))] at hQ; exact hQ
      · rw [if_neg q2, if_pos (by decide)] at hQ; exact no (by rw [i_le]; exact q2) hQ
  · rw [if_neg (c := okx x 4) (by exact h), if_pos (by decide)] at hQ; exact hQ
/-! places -/
def plc (J : XJ) (x n : Nat) : Int32 := orN (fun i => (nI 1) <<< ((J 68 (60 * x + i)).toInt32 &&& 31)) n
theorem k155 {d : Nat} {Q : XQ} {S : XS} {I : XI} {J : XJ} {r : XR} {cu su x n : Nat} (hL : LAY S r) (t : TR I J) (hx : x < 4) (hn : n ≤ 20) (hQ : Q (some (.int (plc J x n))) S I J r) : ∀ j i, i + j = n → xrun z0 (xcall (d + 1)) Q 155 5 [.ref 3, .int (nI x), .int (nI n), .int (plc J x i), .int (nI i)] [] S I J r cu su
  | 0, i, hi => by
    have e : i = n := by omega
    subst e
    exact K155_5 (yes (Int32.le_refl _) hQ)
  | j + 1, i, hi => by
    refine K155_5 (no (by rw [nI_leI (by omega) (by omega)]; omega) (no (by rw [nI_leI (by omega) (by omega)]; omega) (c18 (fun k h1 h2 => K155_22 hL (no (by decide) ⟨vp_in_nI (by omega) (by decide), vp_in_nI (by omega) (by decide), ?_⟩)) (fun h => absurd (okx_nI hx (by decide)) h))))
    rw [nI_clamp (by omega), nI_clamp (by omega), (t x hx).2.2.2 i (by omega), nI_add]
    exact k155 hL t hx hn hQ j (i + 1) (by omega)
theorem c155 {d : Nat} {Q : XQ} {S : XS} {I : XI} {J : XJ} {r : XR} {x n : Nat} (hL : LAY S r) (t : TR I J) (hx : x < 4) (hn : n ≤ 20) (hQ : Q (some (.int (plc J x n))) S I J r) : xcall (d + 2) 155 [.ref 3, .int (nI x), .int (nI n)] S I J r Q :=
  E155 (k155 hL t hx hn hQ n 0 (by omega))
theorem k322 {d : Nat} {Q : XQ} {S : XS} {I : XI} {J : XJ} {r : XR} {cu su x n : Nat} (hL : LAY S r) (hx : x < 4) (hn : n ≤ 20) (hQ : Q (some (.int (plc J x n))) S I J r) : ∀ j i, i + j = n → xrun z0 (xcall (d + 1)) Q 322 5 [.ref 65, .int (nI x), .int (nI n), .int (plc J x i), .int (nI i)] [] S I J r cu su
  | 0, i, hi => by
    have e : i = n := by omega
    subst e
    exact K322_5 hL (yes (Int32.le_refl _) hQ)
  | j + 1, i, hi => by
    refine K322_5 hL (no (by rw [nI_leI (by omega) (by omega)]; omega) (r321 hL hx (by omega) (K322_20 ?_)))
    rw [nI_add]
    exact k322 hL hx hn hQ j (i + 1) (by omega)
theorem r322 {d : Nat} {Q : XQ} {S : XS} {I : XI} {J : XJ} {r : XR} {x n : Nat} (hL : LAY S r) (hx : x < 4) (hn : n ≤ 20) (hQ : Q (some (.int (plc J x n))) S I J r) : xcall (d + 2) 322 [.ref 65, .int (nI x), .int (nI n)] S I J r Q :=
  E322 (k322 hL hx hn hQ n 0 (by omega))
/-! where a patch can begin -/
abbrev bgn (B : Nat → Int32) (c p q : Nat) : Prop := c % bn B 0 + p ≤ bn B 0 ∧ c / bn B 0 + q ≤ bn B 1
theorem c134 {d : Nat} {Q : XQ} {S : XS} {I : XI} {J : XJ} {r : XR} {a k : Nat} {w h : Int32} {B : Nat → Int32} {W : Nat → Int64} (h0 : LY0 S r a) (c : CR I J a B W) (hk : k < ce B) (hT : 1 ≤ w.toInt → w.toInt ≤ (bn B 0 : Int) - (k % bn B 0 : Nat) → 1 ≤ h.toInt → h.toInt ≤ (bn B 1 : Int) - (k / bn B 0 : Nat) → Q (some (.int 1)) S I J r)
    (hF : ¬ (1 ≤ w.toInt ∧ w.toInt ≤ (bn B 0 : Int) - (k % bn B 0 : Nat) ∧ 1 ≤ h.toInt ∧ h.toInt ≤ (bn B 1 : Int) - (k / bn B 0 : Nat)) → Q (some (.int 0)) S I J r) : xcall (d + 2) 134 [.ref a, .int (nI k), .int w, .int h] S I J r Q := by
  have hN := ce_le c.wf
  have hW := c.wf.w
  have hH := c.wf.h
  have m1 : k % bn B 0 < 6 := Nat.lt_of_lt_of_le (Nat.mod_lt _ (by omega)) hW.2.2
  have m2 : k / bn B 0 ≤ k := Nat.div_le_self _ _
  have z1 : (nI 1).toInt = 1 := rfl
  refine E134 h0 (c76y h0 c hk (K134_5 h0 (no (by decide) ⟨fun q => hF ?_, fun q => ⟨fun q2 => hF ?_, fun q2 => c67 h0 c (by omega) (K134_28 h0 ?_)⟩⟩)))
  · rw [i_lt, z1] at q; omega
  · rw [i_lt, z1] at q2; omega
  rw [i_lt, z1] at q q2
  rw [c.n0]
  refine ⟨fun q3 => hF ?_, fun q3 => c68 h0 c (by omega) (K134_42 ?_)⟩
  · rw [i_lt, i_subI (by omega) (by omega)] at q3; omega
  rw [i_lt, i_subI (by omega) (by omega)] at q3
  rw [c.n1]
  refine ⟨fun q4 => hF ?_, fun q4 => hT ?_ ?_ ?_ ?_⟩
  all_goals rw [i_lt, i_subI (by omega) (by omega)] at q4
  all_goals omega
theorem c134n {d : Nat} {Q : XQ} {S : XS} {I : XI} {J : XJ} {r : XR} {a k p q : Nat} {B : Nat → Int32} {W : Nat → Int64} (h0 : LY0 S r a) (c : CR I J a B W) (hk : k < ce B) (hp : 1 ≤ p ∧ p ≤ 6) (hq : 1 ≤ q ∧ q ≤ 5) (hT : bgn B k p q → Q (some (.int 1)) S I J r)
    (hF : ¬ bgn B k p q → Q (some (.int 0)) S I J r) : xcall (d + 2) 134 [.ref a, .int (nI k), .int (nI p), .int (nI q)] S I J r Q := by
  refine c134 h0 c hk (fun h1 h2 h3 h4 => hT ?_) (fun h => hF ?_)
  · rw [i_toI (by omega)] at h2 h4
    exact ⟨by omega, by omega⟩
  · rintro ⟨q1, q2⟩
    refine h ⟨?_, ?_, ?_, ?_⟩ <;> rw [i_toI (by omega)] <;> omega
theorem r324 {d : Nat} {Q : XQ} {S : XS} {I : XI} {J : XJ} {r : XR} {k p q : Nat} (hL : LAY S r) (w : WF (I 70)) (hk : k < ce (I 70)) (hp : 1 ≤ p ∧ p ≤ 6) (hq : 1 ≤ q ∧ q ≤ 5) (hT : bgn (I 70) k p q → Q (some (.int 1)) S I J r)
    (hF : ¬ bgn (I 70) k p q → Q (some (.int 0)) S I J r) : xcall (d + 1) 324 [.ref 65, .int (nI k), .int (nI p), .int (nI q)] S I J r Q := by
  have hN := ce_le w
  have hW := w.w
  have hH := w.h
  have m1 : k % bn (I 70) 0 < 6 := Nat.lt_of_lt_of_le (Nat.mod_lt _ (by omega)) hW.2.2
  have m2 : k / bn (I 70) 0 ≤ k := Nat.div_le_self _ _
  have n0 : ¬ nI (bn (I 70) 0) = 0 := nI_ne0 (by omega) (by omega)
  refine E324 hL ?_
  rw [hW.1, hH.1, pk_rem (by omega) (by omega) (by omega), pk_div (by omega) (by omega) (by omega), nI_add, nI_add, nI_ltI (by omega) (by omega), nI_ltI (by omega) (by omega)]
  refine ⟨n0, fun q1 => hF (fun h => ?_), fun q1 => ⟨n0, fun q2 => hF (fun h => ?_), fun q2 => hT ⟨?_, ?_⟩⟩⟩
  · have := h.1; omega
  · have := h.2; omega
  · omega
  · omega
theorem k157 {d : Nat} {Q : XQ} {S : XS} {I : XI} {J : XJ} {r : XR} {cu su a p q : Nat} {B : Nat → Int32} {W : Nat → Int64} (h0 : LY0 S r a) (c : CR I J a B W) (hp : 1 ≤ p ∧ p ≤ 6) (hq : 1 ≤ q ∧ q ≤ 5) (hQ : Q (some (.int (beg B p q))) S I J r) : ∀ j i, i + j = ce B → xrun z0 (xcall (d + 2)) Q 157 5 [.ref a, .int (nI p), .int (nI q), .int (orN (fun i => if i % bn B 0 + p ≤ bn B 0 ∧ i / bn B 0 + q ≤ bn B 1 then bi i else 0) i), .int (nI i)] [] S I J r cu su
  | 0, i, hi => by
    have e : i = ce B := by omega
    subst e
    refine K157_5 h0 (yes ?_ hQ)
    rw [c.n0, c.n1, pk_mul]; exact Int32.le_refl _
  | j + 1, i, hi => by
    have hN := ce_le c.wf
    have ih := k157 (d := d) (cu := cu) (su := su) h0 c hp hq hQ j (i + 1) (by omega)
    rw [orN] at ih
    refine K157_5 h0 (no ?_ (c134n h0 c (by omega) hp hq (fun h => K157_27 (no (by decide) ?_)) (fun h => K157_27 (yes rfl ?_))))
    · rw [c.n0, c.n1, pk_mul, nI_leI (by unfold ce at hN; omega) (by omega)]; unfold ce at hi; omega
    · rw [if_pos (by exact h)] at ih
      rw [nI_add]; exact ih
    · rw [if_neg (by exact h), Int32.or_zero] at ih
      rw [nI_add]; exact ih
theorem c157 {d : Nat} {Q : XQ} {S : XS} {I : XI} {J : XJ} {r : XR} {a p q : Nat} {B : Nat → Int32} {W : Nat → Int64} (h0 : LY0 S r a) (c : CR I J a B W) (hp : 1 ≤ p ∧ p ≤ 6) (hq : 1 ≤ q ∧ q ≤ 5) (hQ : Q (some (.int (beg B p q))) S I J r) : xcall (d + 3) 157 [.ref a, .int (nI p), .int (nI q)] S I J r Q :=
  E157 (k157 h0 c hp hq hQ (ce B) 0 (by omega))
/-- how far a place is from the first cell -/
abbrev sft (B : Nat → Int32) (p x : Nat) : Nat := x / p * bn B 0 + x % p
theorem sft_lt {B : Nat → Int32} (h : WF B) {p q x : Nat} (hp : 1 ≤ p ∧ p ≤ 6) (hq : q ≤ 5) (hx : x < p * q) : sft B p x < 30 := by
  have h1 : x / p < q := by rw [Nat.div_lt_iff_lt_mul (by omega), Nat.mul_comm]; exact hx
  have h2 : x % p < p := Nat.mod_lt _ (by omega)
  have h3 : x / p * bn B 0 ≤ 4 * 6 := Nat.mul_le_mul (by omega) h.w.2.2
  unfold sft
  omega
theorem c158 {d : Nat} {Q : XQ} {S : XS} {I : XI} {J : XJ} {r : XR} {a p q x : Nat} {B : Nat → Int32} {W : Nat → Int64} (h0 : LY0 S r a) (c : CR I J a B W) (hp : 1 ≤ p ∧ p ≤ 6) (hq : q ≤ 5) (hx : x < p * q) (hQ : Q (some (.int (rset B >>> (nI (sft B p x) &&& 31)))) S I J r) : xcall (d + 2) 158 [.ref a, .int (nI x), .int (nI p)] S I J r Q := by
  have hpq : p * q ≤ 30 := Nat.le_trans (Nat.mul_le_mul hp.2 hq) (by decide)
  have n0 : ¬ nI p = 0 := nI_ne0 (by omega) (by omega)
  refine E158 h0 (yes (by rw [nI_leI (by decide) (by omega)]; omega) (c99 h0 c (K158_11 h0 ?_)))
  rw [c.n0, pk_rem (by omega) (by omega) (by omega), pk_div (by omega) (by omega) (by omega), pk_mul, nI_add]
  exact ⟨n0, n0, hQ⟩
