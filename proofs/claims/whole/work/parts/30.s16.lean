/-! ask -/
/-- the first of the least of g below n, by a bound L: (its number + 1, the least) -/
def mn (g : Nat → Nat) (L : Nat) : Nat → Nat × Nat
  | 0 => (0, L)
  | n + 1 => if g n < (mn g L n).2 then (n + 1, g n) else mn g L n
theorem mn_eq {g : Nat → Nat} {L L' : Nat} (h1 : g 0 < L) (h2 : g 0 < L') : ∀ n, mn g L (n + 1) = mn g L' (n + 1)
  | 0 => by
    show (if g 0 < L then (0 + 1, g 0) else (0, L)) = (if g 0 < L' then (0 + 1, g 0) else (0, L'))
    rw [if_pos h1, if_pos h2]
  | n + 1 => by
    have ih := mn_eq h1 h2 n
    rw [mn, ih]
    rfl
theorem mn_le {g : Nat → Nat} {L : Nat} : ∀ n, (mn g L n).1 ≤ n ∧ (mn g L n).2 ≤ L
  | 0 => ⟨Nat.le_refl _, Nat.le_refl _⟩
  | n + 1 => by
    have := mn_le (g := g) (L := L) n
    rw [mn]
    split
    · exact ⟨Nat.le_refl _, by show g n ≤ L; omega⟩
    · exact ⟨by omega, this.2⟩
def mnI (k : Nat) : Int32 := if k = 0 then -1 else nI (k - 1)
def bgB (B : Nat → Int32) (p q i : Nat) : Bool := decide (bgn B i p q)
theorem bgB_t {B : Nat → Int32} {p q i : Nat} : bgB B p q i = true ↔ bgn B i p q := decide_eq_true_iff
/-- of all that can begin, how many have a rock in the place -/
def wth (B : Nat → Int32) (p q x : Nat) : Nat := cntF (fun i => bgB B p q i && rkb B (i + sft B p x)) (ce B)
def allB (B : Nat → Int32) (p q : Nat) : Nat := cntF (bgB B p q) (ce B)
def gB (B : Nat → Int32) (p q x : Nat) : Nat := max (wth B p q x) (allB B p q - wth B p q x)
theorem wth_le {B : Nat → Int32} {p q x : Nat} : wth B p q x ≤ allB B p q := cntF_mono (fun i h => by rw [Bool.and_eq_true] at h; exact h.1) _
theorem allB_le {B : Nat → Int32} (h : WF B) {p q : Nat} : allB B p q ≤ 30 := Nat.le_trans (cntF_le _ _) (ce_le h).2
theorem gB_le {B : Nat → Int32} {p q x : Nat} : gB B p q x ≤ allB B p q := by
  have := wth_le (B := B) (p := p) (q := q) (x := x)
  unfold gB; omega
def q160 (B : Nat → Int32) (w h : Int32) : Nat × Int32 := if okr w 1 6 ∧ okr h 1 5 then (if allB B (cl w) (cl h) < 2 then (8, -1) else (0, mnI (mn (gB B (cl w) (cl h)) 99 (cl w * cl h)).1)) else (5, -1)
theorem ct_all {B : Nat → Int32} (h : WF B) {p q : Nat} : ctN (beg B p q) 32 = allB B p q := ct_fc h (fun i hi => by rw [bt_beg h hi, bgB_t])
theorem ct_wth {B : Nat → Int32} (h : WF B) {p q x : Nat} (hp : 1 ≤ p ∧ p ≤ 6) (hq : q ≤ 5) (hx : x < p * q) : ctN (beg B p q &&& (rset B >>> (nI (sft B p x) &&& 31))) 32 = wth B p q x := by
  have hN := ce_le h
  have hs := sft_lt h hp hq hx
  refine ct_fc h (fun i hi => ?_)
  rw [b_and, Bool.and_eq_true, Bool.and_eq_true, bt_beg h hi, bgB_t]
  constructor
  · rintro ⟨⟨h1, h2⟩, h3⟩
    have := bgn_sft h hp.1 h2 hx
    rw [bt_rsh h (by omega) (by omega)] at h3
    exact ⟨h1, h2, h3⟩
  · rintro ⟨h1, h2, h3⟩
    have := bgn_sft h hp.1 h2 hx
    exact ⟨⟨h1, h2⟩, by rw [bt_rsh h (by omega) (by omega)]; exact h3⟩
theorem k160 {d : Nat} {Q : XQ} {S : XS} {I : XI} {J : XJ} {r : XR} {cu su p q : Nat} {B : Nat → Int32} {W : Nat → Int64} (hL : LAY S r) (c : CR I J 28 B W) (hp : 1 ≤ p ∧ p ≤ 6) (hq : 1 ≤ q ∧ q ≤ 5) (hQ : Q (some (.int (mnI (mn (gB B p q) (allB B p q + 1) (p * q)).1))) S (up2 I 0 13 (nI 0)) J r) :
    ∀ j x w8 w9, x + j = p * q → xrun z0 (xcall (d + 2)) Q 160 55 [.ref 0, .int (nI p), .int (nI q), .int (beg B p q), .int (nI (allB B p q)), .int (mnI (mn (gB B p q) (allB B p q + 1) x).1), .int (nI (mn (gB B p q) (allB B p q + 1) x).2), .int (nI x), w8, w9] [] S I J r cu su
  | 0, x, w8, w9, hx => by
    have e : x = p * q := by omega
    subst e
    exact K160_55 hL (yes (by rw [pk_mul]; exact Int32.le_refl _) (E83 hL (K160_119 hQ)))
  | j + 1, x, w8, w9, hx => by
    have hpq : p * q ≤ 30 := Nat.le_trans (Nat.mul_le_mul hp.2 hq.2) (by decide)
    have hw := wth_le (B := B) (p := p) (q := q) (x := x)
    have ha := allB_le c.wf (p := p) (q := q)
    have hg := gB_le (B := B) (p := p) (q := q) (x := x)
    have hm := mn_le (g := gB B p q) (L := allB B p q + 1) x
    refine K160_55 hL (no (by rw [pk_mul, nI_leI (by omega) (by omega)]; omega) (c158 (lay0_28 hL) c hp hq.2 (by omega) (K160_74 (c78 (K160_78 ?_)))))
    rw [ct_wth c.wf hp hq.2 (by omega), pk_sub hw]
    refine c35 (by omega) (by omega) (K160_90 ?_)
    rw [show max (wth B p q x) (allB B p q - wth B p q x) = gB B p q x from rfl, nI_leI (by omega) (by omega), nI_add]
    have ih := fun w8 w9 => k160 (d := d) (cu := cu) (su := su) hL c hp hq hQ j (x + 1) w8 w9 (by omega)
    rw [mn] at ih
    by_cases h : gB B p q x < (mn (gB B p q) (allB B p q + 1) x).2
    · rw [if_pos h] at ih
      have e : mnI (x + 1) = nI x := by unfold mnI; rw [if_neg (by omega)]; rfl
      dsimp only at ih
      rw [e] at ih
      exact no (by omega) (ih _ _)
    · rw [if_neg h] at ih
      exact yes (by omega) (ih _ _)
theorem mn_99 {B : Nat → Int32} (h : WF B) {p q : Nat} (hp : 1 ≤ p) (hq : 1 ≤ q) : mn (gB B p q) (allB B p q + 1) (p * q) = mn (gB B p q) 99 (p * q) := by
  have ha := allB_le h (p := p) (q := q)
  have hg := gB_le (B := B) (p := p) (q := q) (x := 0)
  have h1 : 0 < p * q := Nat.mul_pos hp hq
  obtain ⟨m, e⟩ : ∃ m, p * q = m + 1 := ⟨p * q - 1, by omega⟩
  rw [e]
  exact mn_eq (by omega) (by omega) m
theorem c160 {d : Nat} {Q : XQ} {S : XS} {I : XI} {J : XJ} {r : XR} {w h : Int32} {B : Nat → Int32} {W : Nat → Int64} (hL : LAY S r) (c : CR I J 28 B W) (hQ : QC Q S I J r (q160 B w h).1 (q160 B w h).2) : xcall (d + 4) 160 [.ref 0, .int w, .int h] S I J r Q := by
  unfold q160 at hQ
  refine E160 (c154 (fun h1 h2 => K160_5 hL (yes (by decide) ?_)) (fun h1 => K160_5 hL (nno rfl ?_)))
  · rw [if_pos ⟨h1, h2⟩] at hQ
    obtain ⟨p1, p2, p3⟩ := okr_cl (lo := 1) (hi := 6) h1 (by decide)
    obtain ⟨p4, p5, p6⟩ := okr_cl (lo := 1) (hi := 5) h2 (by decide)
    generalize cl w = p at *
    generalize cl h = q at *
    subst p3 p6
    have ha := allB_le c.wf (p := p) (q := q)
    refine c157 (lay0_28 hL) c ⟨p1, p2⟩ ⟨p4, p5⟩ (K160_23 (c78 (K160_28 hL ?_)))
    rw [ct_all c.wf, nI_leI (by decide) (by omega), nI_add]
    by_cases q2 : allB B p q < 2
    · rw [if_pos q2] at hQ
      exact no (by omega) (E31 hL (K160_42 (hQ.e (ix.r I))))
    · rw [if_neg q2, ← mn_99 c.wf p1 p4] at hQ
      exact yes (by omega) (k160 (d := d + 1) hL c ⟨p1, p2⟩ ⟨p4, p5⟩ (hQ.e (ix.r I)) (p * q) 0 _ _ (by omega))
  · rw [if_neg h1] at hQ
    exact E31 hL (K160_13 (hQ.e (ix.r I)))
theorem k327a {d : Nat} {Q : XQ} {S : XS} {I : XI} {J : XJ} {r : XR} {cu su p q : Nat} {x3 x4 : Int32} (hL : LAY S r) (w : WF (I 70)) (hp : 1 ≤ p ∧ p ≤ 6) (hq : 1 ≤ q ∧ q ≤ 5)
    (hK : ∀ w7 w8, xrun z0 (xcall (d + 1)) Q 327 91 [.ref 65, .int (nI p), .int (nI q), .int x3, .int x4, .int (nI (allB (I 70) p q)), .int (nI 0), w7, w8] [] S I J r cu su) :
    ∀ j i w7 w8, i + j = ce (I 70) → xrun z0 (xcall (d + 1)) Q 327 52 [.ref 65, .int (nI p), .int (nI q), .int x3, .int x4, .int (nI (cntF (bgB (I 70) p q) i)), .int (nI i), w7, w8] [] S I J r cu su
  | 0, i, w7, w8, hi => by
    have e : i = ce (I 70) := by omega
    subst e
    exact K327_52 hL (r259 hL w (K327_58 hL (yes (Int32.le_refl _) (hK _ _))))
  | j + 1, i, w7, w8, hi => by
    have hN := ce_le w
    have ih := k327a (d := d) (cu := cu) (su := su) hL w hp hq hK j (i + 1) w7 w8 (by omega)
    rw [cntF] at ih
    refine K327_52 hL (r259 hL w (K327_58 hL (no (by rw [nI_leI (by omega) (by omega)]; omega) (r324 hL w (by omega) hp hq (fun h => K327_71 (no (by decide) ?_)) (fun h => K327_71 (yes rfl ?_))))))
    · rw [if_pos (bgB_t.mpr h)] at ih
      rw [nI_add, nI_add]; exact ih
    · rw [if_neg (fun h2 => h (bgB_t.mp h2))] at ih
      rw [nI_add, nI_add]; exact ih
theorem k327b {d : Nat} {Q : XQ} {S : XS} {I : XI} {J : XJ} {r : XR} {cu su p q x : Nat} {x3 x4 x5 : Int32} (hL : LAY S r) (w : WF (I 70)) (hp : 1 ≤ p ∧ p ≤ 6) (hq : 1 ≤ q ∧ q ≤ 5) (hx : x < p * q)
    (hK : xcall (d + 1) 35 [.int (nI (wth (I 70) p q x)), .int (x5 - nI (wth (I 70) p q x))] S I J r (fun v S1 I1 J1 r1 => xrun z0 (xcall (d + 1)) Q 327 173 [.ref 65, .int (nI p), .int (nI q), .int x3, .int x4, .int x5, .int (nI x), .int (nI (wth (I 70) p q x)), .int (nI (ce (I 70)))] (v.toList ++ []) S1 I1 J1 r1 cu su)) :
    ∀ j i, i + j = ce (I 70) → xrun z0 (xcall (d + 1)) Q 327 105 [.ref 65, .int (nI p), .int (nI q), .int x3, .int x4, .int x5, .int (nI x), .int (nI (cntF (fun i => bgB (I 70) p q i && rkb (I 70) (i + sft (I 70) p x)) i)), .int (nI i)] [] S I J r cu su
  | 0, i, hi => by
    have e : i = ce (I 70) := by omega
    subst e
    exact K327_105 hL (r259 hL w (K327_111 hL (yes (Int32.le_refl _) hK)))
  | j + 1, i, hi => by
    have hN := ce_le w
    have hpq : p * q ≤ 30 := Nat.le_trans (Nat.mul_le_mul hp.2 hq.2) (by decide)
    have ih := k327b (d := d) (cu := cu) (su := su) hL w hp hq hx hK j (i + 1) (by omega)
    rw [cntF] at ih
    refine K327_105 hL (r259 hL w (K327_111 hL (no (by rw [nI_leI (by omega) (by omega)]; omega) (r324 hL w (by omega) hp hq (fun h => K327_124 hL (no (by decide) ?_)) (fun h => K327_124 hL (yes rfl ?_))))))
    · have hs := bgn_sft w hp.1 h hx
      rw [w.w.1]
      refine r325 (B := I 70) hp (by omega) (by omega) w.w.2.2 (K327_143 hL (r229k hL w (by omega) (fun q1 hq1 hr => K327_146 (no (nI_pos (by omega)) ?_)) (fun hr => K327_146 (yes (by decide) ?_))))
      · rw [if_pos (by rw [bgB_t.mpr h, hr]; rfl)] at ih
        rw [nI_add, nI_add]; exact ih
      · rw [if_neg (by rw [hr, Bool.and_false]; decide)] at ih
        rw [nI_add, nI_add]; exact ih
    · rw [if_neg (fun h2 => by rw [Bool.and_eq_true] at h2; exact h (bgB_t.mp h2.1))] at ih
      rw [nI_add, nI_add]; exact ih
theorem k327 {d : Nat} {Q : XQ} {S : XS} {I : XI} {J : XJ} {r : XR} {cu su p q : Nat} (hL : LAY S r) (w : WF (I 70)) (hp : 1 ≤ p ∧ p ≤ 6) (hq : 1 ≤ q ∧ q ≤ 5)
    (h8 : allB (I 70) p q < 2 → Q (some (.int (-1))) S (up2 I 65 0 (nI 8)) J r) (h0 : ¬ allB (I 70) p q < 2 → Q (some (.int (mnI (mn (gB (I 70) p q) 99 (p * q)).1))) S I J r) :
    ∀ j x w7 w8, x + j = p * q → xrun z0 (xcall (d + 1)) Q 327 91 [.ref 65, .int (nI p), .int (nI q), .int (mnI (mn (gB (I 70) p q) 99 x).1), .int (nI (mn (gB (I 70) p q) 99 x).2), .int (nI (allB (I 70) p q)), .int (nI x), w7, w8] [] S I J r cu su
  | 0, x, w7, w8, hx => by
    have ha := allB_le w (p := p) (q := q)
    have e : x = p * q := by omega
    subst e
    refine K327_91 hL (yes (by rw [pk_mul]; exact Int32.le_refl _) ?_)
    rw [nI_leI (by decide) (by omega)]
    by_cases q2 : allB (I 70) p q < 2
    · exact no (by omega) (E261 hL (K327_214 (h8 q2)))
    · exact yes (by omega) (h0 q2)
  | j + 1, x, w7, w8, hx => by
    have hN := ce_le w
    have hpq : p * q ≤ 30 := Nat.le_trans (Nat.mul_le_mul hp.2 hq.2) (by decide)
    have hw := wth_le (B := I 70) (p := p) (q := q) (x := x)
    have ha := allB_le w (p := p) (q := q)
    have hg := gB_le (B := I 70) (p := p) (q := q) (x := x)
    have hm := mn_le (g := gB (I 70) p q) (L := 99) x
    refine K327_91 hL (no (by rw [pk_mul, nI_leI (by omega) (by omega)]; omega) (k327b hL w hp hq (by omega) ?_ (ce (I 70)) 0 (by omega)))
    have ih := fun w7 w8 => k327 (d := d) (cu := cu) (su := su) hL w hp hq h8 h0 j (x + 1) w7 w8 (by omega)
    rw [mn] at ih
    rw [pk_sub hw]
    refine c35 (by omega) (by omega) (K327_173 ?_)
    rw [show max (wth (I 70) p q x) (allB (I 70) p q - wth (I 70) p q x) = gB (I 70) p q x from rfl, nI_ltI (by omega) (by omega), pk_sub hw, nI_add]
    by_cases h : gB (I 70) p q x < (mn (gB (I 70) p q) 99 x).2
    · rw [if_pos h] at ih
      have e : mnI (x + 1) = nI x := by unfold mnI; rw [if_neg (by omega)]; rfl
      dsimp only at ih
      rw [e] at ih
      refine yes h (c35 (by omega) (by omega) (K327_191 ?_))
      rw [show max (wth (I 70) p q x) (allB (I 70) p q - wth (I 70) p q x) = gB (I 70) p q x from rfl, nI_add]
      exact ih _ _
    · rw [if_neg h] at ih
      exact no h (ih _ _)
theorem r327 {d : Nat} {Q : XQ} {S : XS} {I : XI} {J : XJ} {r : XR} {x y : Int32} (hL : LAY S r) (w : WF (I 70)) (hQ : QM Q S I J r (q160 (I 70) x y).1 (q160 (I 70) x y).2) : xcall (d + 3) 327 [.ref 65, .int x, .int y] S I J r Q := by
  have z1' : (lN 1).toInt = 1 := rfl
  have z5' : (lN 5).toInt = 5 := rfl
  have z6' : (lN 6).toInt = 6 := rfl
  unfold q160 at hQ
  refine E327 hL (c221 (fun h1 h2 => K327_19 hL (no (by decide) (c221 (fun h3 h4 => K327_31 hL (yes (by decide) ?_)) (fun h => K327_31 hL (nno rfl ?_))))) (fun h => K327_19 hL (yes rfl ?_)))
  · rw [i_l] at h1 h2 h3 h4
    have hx : okr x 1 6 := ⟨by omega, by omega⟩
    have hy : okr y 1 5 := ⟨by omega, by omega⟩
    rw [if_pos ⟨hx, hy⟩] at hQ
    obtain ⟨p1, p2, p3⟩ := okr_cl (lo := 1) (hi := 6) hx (by decide)
    obtain ⟨p4, p5, p6⟩ := okr_cl (lo := 1) (hi := 5) hy (by decide)
    generalize cl x = p at *
    generalize cl y = q at *
    subst p3 p6
    refine k327a (d := d + 1) (I := m2 I) hL w ⟨p1, p2⟩ ⟨p4, p5⟩ (fun w7 w8 => k327 (d := d + 1) (I := m2 I) hL w ⟨p1, p2⟩ ⟨p4, p5⟩ (fun h8 => ?_) (fun h0 => ?_) (p * q) 0 w7 w8 (by omega)) (ce (I 70)) 0 _ _ (by show 0 + ce (I 70) = ce (I 70); omega)
    · rw [if_pos (by exact h8)] at hQ; exact hQ.r
    · rw [if_neg (by exact h0)] at hQ; exact hQ.z
  · rw [i_l] at h
    rw [if_neg (fun q => h (by have := q.2.1; have := q.2.2; omega))] at hQ
    exact E261 hL (K327_39 hQ.r)
  · rw [i_l] at h
    rw [if_neg (fun q => h (by have := q.1.1; have := q.1.2; omega))] at hQ
    exact E261 hL (K327_39 hQ.r)
