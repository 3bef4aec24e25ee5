/-! patches that fit -/
abbrev rkb (B : Nat → Int32) (i : Nat) : Bool := bt (rset B) i
/-- whether such a patch fits from the cell k, by the first m places -/
def fit1 (B : Nat → Int32) (pl : Int32) (p k m : Nat) : Prop := ∀ x, x < m → bt pl x = rkb B (k + sft B p x)
def fitc (B : Nat → Int32) (pl : Int32) (p q k : Nat) : Prop := bgn B k p q ∧ fit1 B pl p k (p * q)
theorem fit1_s {B : Nat → Int32} {pl : Int32} {p k m : Nat} : fit1 B pl p k (m + 1) ↔ fit1 B pl p k m ∧ bt pl m = rkb B (k + sft B p m) := by
  unfold fit1
  constructor
  · intro h; exact ⟨fun x hx => h x (by omega), h m (by omega)⟩
  · rintro ⟨h1, h2⟩ x hx
    rcases Nat.lt_or_ge x m with q | q
    · exact h1 x q
    · have : x = m := by omega
      subst this; exact h2
theorem bt_beg {B : Nat → Int32} (h : WF B) {p q i : Nat} (hi : i < 32) : bt (beg B p q) i = true ↔ i < ce B ∧ bgn B i p q := by
  have hN := ce_le h
  unfold beg
  rw [bt_orN]
  constructor
  · rintro ⟨j, h2, h3⟩
    split at h3
    · rename_i h4
      rw [bt_bi (by omega) hi] at h3
      subst h3; exact ⟨h2, h4⟩
    · rw [b_0] at h3; cases h3
  · rintro ⟨h1, h2⟩
    exact ⟨i, h1, by rw [if_pos h2, bt_bi hi hi]⟩
theorem bgn_sft {B : Nat → Int32} (h : WF B) {p q x k : Nat} (hp : 1 ≤ p) (hb : bgn B k p q) (hx : x < p * q) : k + sft B p x < ce B := by
  have hW := h.w
  have h1 : x / p < q := by rw [Nat.div_lt_iff_lt_mul (by omega), Nat.mul_comm]; exact hx
  have h2 : x % p < p := Nat.mod_lt _ (by omega)
  have h3 := Nat.div_add_mod k (bn B 0)
  obtain ⟨b1, b2⟩ := hb
  have h4 : (k / bn B 0 + x / p + 1) * bn B 0 ≤ bn B 1 * bn B 0 := Nat.mul_le_mul_right _ (by omega)
  have h5 : (k / bn B 0 + x / p + 1) * bn B 0 = bn B 0 * (k / bn B 0) + x / p * bn B 0 + bn B 0 := by
    rw [Nat.add_mul, Nat.add_mul, Nat.one_mul, Nat.mul_comm (k / bn B 0)]
  unfold sft ce
  rw [Nat.mul_comm (bn B 0) (bn B 1)]
  omega
theorem bt_rsh {B : Nat → Int32} (h : WF B) {s i : Nat} (hs : s < 32) (hi : i + s < 32) : bt (rset B >>> (nI s &&& 31)) i = rkb B (i + s) := by
  rw [b_sshr s hs _ (by omega), if_pos (by omega), Nat.add_comm]
theorem not_bt {x : Int32} {i : Nat} (hi : i < 32) : bt (x ^^^ (-1 : Int32)) i = !bt x i := bt_not hi
/-- the class's set of the cells at which it fits, by the first m places -/
theorem k156 {d : Nat} {Q : XQ} {S : XS} {I : XI} {J : XJ} {r : XR} {cu su a p q : Nat} {pl : Int32} {B : Nat → Int32} {W : Nat → Int64} (h0 : LY0 S r a) (c : CR I J a B W) (hp : 1 ≤ p ∧ p ≤ 6) (hq : 1 ≤ q ∧ q ≤ 5)
    (hQ : ∀ x, (∀ i, i < 32 → (bt x i = true ↔ i < ce B ∧ fitc B pl p q i)) → Q (some (.int x)) S I J r) :
    ∀ j m x w6, m + j = p * q → (∀ i, i < 32 → (bt x i = true ↔ i < ce B ∧ bgn B i p q ∧ fit1 B pl p i m)) → xrun z0 (xcall (d + 2)) Q 156 11 [.ref a, .int pl, .int (nI p), .int (nI q), .int x, .int (nI m), w6] [] S I J r cu su
  | 0, m, x, w6, hm, hx => by
    have e : m = p * q := by omega
    subst e
    refine K156_11 h0 (yes (by rw [pk_mul]; exact Int32.le_refl _) (hQ x (fun i hi => ?_)))
    rw [hx i hi]; rfl
  | j + 1, m, x, w6, hm, hx => by
    have hN := ce_le c.wf
    have hpq : p * q ≤ 30 := Nat.le_trans (Nat.mul_le_mul hp.2 hq.2) (by decide)
    have hs := sft_lt c.wf hp hq.2 (x := m) (by omega)
    refine K156_11 h0 (no (by rw [pk_mul, nI_leI (by omega) (by omega)]; omega) (c158 h0 c hp hq.2 (by omega) (K156_26 ?_)))
    rw [bt_down (by omega), nI_add]
    have key : ∀ y : Int32, (∀ i, i < ce B → bgn B i p q → (bt y i = true ↔ bt pl m = rkb B (i + sft B p m))) → ∀ i, i < 32 → (bt (x &&& y) i = true ↔ i < ce B ∧ bgn B i p q ∧ fit1 B pl p i (m + 1)) := fun y hy i hi => by
      rw [b_and, Bool.and_eq_true, hx i hi, fit1_s]
      constructor
      · rintro ⟨⟨h1, h2, h3⟩, h4⟩; exact ⟨h1, h2, h3, (hy i h1 h2).mp h4⟩
      · rintro ⟨h1, h2, h3, h4⟩; exact ⟨⟨h1, h2, h3⟩, (hy i h1 h2).mpr h4⟩
    cases hb : bt pl m
    · refine yes rfl (k156 h0 c hp hq hQ j (m + 1) _ _ (by omega) (key _ (fun i h1 h2 => ?_)))
      have := bgn_sft c.wf hp.1 h2 (x := m) (by omega)
      rw [not_bt (by omega), bt_rsh c.wf (by omega) (by omega), hb]
      cases rkb B (i + sft B p m) <;> simp
    · refine no (by decide) (k156 h0 c hp hq hQ j (m + 1) _ _ (by omega) (key _ (fun i h1 h2 => ?_)))
      have := bgn_sft c.wf hp.1 h2 (x := m) (by omega)
      rw [bt_rsh c.wf (by omega) (by omega), hb]
      cases rkb B (i + sft B p m) <;> simp
theorem c156 {d : Nat} {Q : XQ} {S : XS} {I : XI} {J : XJ} {r : XR} {a p q : Nat} {pl : Int32} {B : Nat → Int32} {W : Nat → Int64} (h0 : LY0 S r a) (c : CR I J a B W) (hp : 1 ≤ p ∧ p ≤ 6) (hq : 1 ≤ q ∧ q ≤ 5)
    (hQ : ∀ x, (∀ i, i < 32 → (bt x i = true ↔ i < ce B ∧ fitc B pl p q i)) → Q (some (.int x)) S I J r) : xcall (d + 4) 156 [.ref a, .int pl, .int (nI p), .int (nI q)] S I J r Q :=
  E156 h0 (c157 h0 c hp hq (K156_6 (k156 (d := d + 1) h0 c hp hq hQ (p * q) 0 _ _ (by omega) (fun i hi => by
    rw [bt_beg c.wf hi]
    exact ⟨fun h => ⟨h.1, h.2, fun x hx => by omega⟩, fun h => ⟨h.1, h.2.1⟩⟩))))
theorem r325 {d : Nat} {Q : XQ} {S : XS} {I : XI} {J : XJ} {r : XR} {x p k : Nat} (hp : 1 ≤ p ∧ p ≤ 6) (hx : x < 100) (hk : k < 100) {B : Nat → Int32} (hW : bn B 0 ≤ 6) (hQ : Q (some (.int (nI (k + sft B p x)))) S I J r) : xcall (d + 1) 325 [.int (nI x), .int (nI p), .int (nI (bn B 0)), .int (nI k)] S I J r Q := by
  have n0 : ¬ nI p = 0 := nI_ne0 (by omega) (by omega)
  refine E325 ?_
  rw [pk_rem (by omega) (by omega) (by omega), pk_div (by omega) (by omega) (by omega), pk_mul, nI_add, nI_add]
  refine ⟨n0, n0, ?_⟩
  unfold sft at hQ
  rw [Nat.mul_comm, ← Nat.add_assoc] at hQ
  exact hQ
/-- whether there is a rock in a cell, as the reference looks -/
theorem r229k {d : Nat} {Q : XQ} {S : XS} {I : XI} {J : XJ} {r : XR} {x : Nat} (hL : LAY S r) (w : WF (I 70)) (hx : x < 32) (h1 : ∀ q : Nat, q < 15 → rkb (I 70) x = true → Q (some (.int (nI q))) S I J r) (h2 : rkb (I 70) x = false → Q (some (.int (-1))) S I J r) : xcall (d + 1) 229 [.ref 65, .int (nI 0), .int (nI x)] S I J r Q := by
  have hb := w.r.2
  refine r229 (b := 0) hL (by decide) (hB0 I) w (by omega) (fun q hq he => h1 q (by omega) ?_) (fun hn => h2 ?_)
  · rw [rkb, bt_rset w hx]; exact ⟨q, hq, he⟩
  · rw [rkb, ← Bool.not_eq_true, bt_rset w hx]
    rintro ⟨q, hq, he⟩
    exact hn q hq he
/-- the k-th that is so -/
noncomputable def fcn (B : Nat → Int32) (pl : Int32) (p q : Nat) (i : Nat) : Bool := @decide (fitc B pl p q i) (Classical.propDecidable _)
theorem fcn_t {B : Nat → Int32} {pl : Int32} {p q i : Nat} : fcn B pl p q i = true ↔ fitc B pl p q i := by unfold fcn; exact @decide_eq_true_iff _ (Classical.propDecidable _)
def kth (P : Nat → Bool) (k : Int32) (n : Nat) : Nat := lst (fun i => P i && decide (nI (cntF P i) = k)) n
theorem kth_y {P : Nat → Bool} {k : Int32} {n : Nat} (h : kth P k n < n) : (P (kth P k n) && decide (nI (cntF P (kth P k n)) = k)) = true := lst_yes h
theorem k323i {d : Nat} {Q : XQ} {S : XS} {I : XI} {J : XJ} {r : XR} {cu su p q k : Nat} {pl x4 x5 : Int32} (hL : LAY S r) (w : WF (I 70)) (hp : 1 ≤ p ∧ p ≤ 6) (hq : 1 ≤ q ∧ q ≤ 5) (hk : k < ce (I 70)) (hb : bgn (I 70) k p q)
    (hT : fitc (I 70) pl p q k → ∀ w8, xrun z0 (xcall (d + 1)) Q 323 28 [.ref 65, .int pl, .int (nI p), .int (nI q), .int x4, .int x5, .int (nI k), .int (nI 1), .int (nI (p * q))] [] S I J r cu su → w8 = true → xrun z0 (xcall (d + 1)) Q 323 28 [.ref 65, .int pl, .int (nI p), .int (nI q), .int x4, .int x5, .int (nI k), .int (nI 1), .int (nI (p * q))] [] S I J r cu su)
    (hE : fitc (I 70) pl p q k → xrun z0 (xcall (d + 1)) Q 323 28 [.ref 65, .int pl, .int (nI p), .int (nI q), .int x4, .int x5, .int (nI k), .int (nI 1), .int (nI (p * q))] [] S I J r cu su)
    (hF : ¬ fitc (I 70) pl p q k → ∀ m, m ≤ p * q → xrun z0 (xcall (d + 1)) Q 323 28 [.ref 65, .int pl, .int (nI p), .int (nI q), .int x4, .int x5, .int (nI k), .int (nI 0), .int (nI m)] [] S I J r cu su) :
    ∀ j m, m + j = p * q → fit1 (I 70) pl p k m → xrun z0 (xcall (d + 1)) Q 323 28 [.ref 65, .int pl, .int (nI p), .int (nI q), .int x4, .int x5, .int (nI k), .int (nI 1), .int (nI m)] [] S I J r cu su
  | 0, m, hm, hf => by
    have e : m = p * q := by omega
    subst e
    exact hE ⟨hb, hf⟩
  | j + 1, m, hm, hf => by
    have hN := ce_le w
    have hpq : p * q ≤ 30 := Nat.le_trans (Nat.mul_le_mul hp.2 hq.2) (by decide)
    have hsf := bgn_sft w hp.1 hb (x := m) (by omega)
    have go : ∀ b : Bool, bt pl m = b → ∀ y1 : Int32, y1 = (if b = true then 1 else 0) → xcall (d + 1) 325 [.int (nI m), .int (nI p), .int (I 70 0), .int (nI k)] S I J r (fun v S1 I1 J1 r1 => xrun z0 (xcall (d + 1)) Q 323 63 [.ref 65, .int pl, .int (nI p), .int (nI q), .int x4, .int x5, .int (nI k), .int (nI 1), .int (nI m)] (v.toList ++ [.int (nI 0), .ref 65, .int y1]) S1 I1 J1 r1 cu su) := fun b hb1 y1 hy1 => by
      rw [w.w.1]
      refine r325 (B := I 70) hp (by omega) (by omega) w.w.2.2 (K323_63 hL (r229k hL w (by omega) (fun q1 hq1 hr => K323_66 (no (nI_pos (by omega)) ?_)) (fun hr => K323_66 (yes (by decide) ?_))))
      · cases b
        · rw [hy1]
          refine yes (by decide) ?_
          rw [nI_add]
          exact hF (fun h => by have := h.2 m (by omega); rw [hb1, hr] at this; cases this) (m + 1) (by omega)
        · rw [hy1]
          refine nno rfl ?_
          rw [nI_add]
          exact k323i hL w hp hq hk hb hT hE hF j (m + 1) (by omega) (fit1_s.mpr ⟨hf, by rw [hb1, hr]⟩)
      · cases b
        · rw [hy1]
          refine nno rfl ?_
          rw [nI_add]
          exact k323i hL w hp hq hk hb hT hE hF j (m + 1) (by omega) (fit1_s.mpr ⟨hf, by rw [hb1, hr]⟩)
        · rw [hy1]
          refine yes (by decide) ?_
          rw [nI_add]
          exact hF (fun h => by have := h.2 m (by omega); rw [hb1, hr] at this; cases this) (m + 1) (by omega)
    refine K323_28 (no (by rw [pk_mul, nI_leI (by omega) (by omega)]; omega) (no (by decide) (c250 (by omega) (fun h => K323_47 hL (go true h _ rfl)) (fun h => K323_47 hL (go false h _ rfl)))))
theorem k323 {d : Nat} {Q : XQ} {S : XS} {I : XI} {J : XJ} {r : XR} {cu su p q : Nat} {pl k : Int32} (hL : LAY S r) (w : WF (I 70)) (hp : 1 ≤ p ∧ p ≤ 6) (hq : 1 ≤ q ∧ q ≤ 5)
    (hY : kth (fcn (I 70) pl p q) k (ce (I 70)) < ce (I 70) → Q (some (.int (nI (kth (fcn (I 70) pl p q) k (ce (I 70)))))) S I J r)
    (hN : ¬ kth (fcn (I 70) pl p q) k (ce (I 70)) < ce (I 70) → Q (some (.int (-1))) S (up2 I 65 28 (nI (cntF (fcn (I 70) pl p q) (ce (I 70))))) J r) :
    ∀ j i w7 w8, i + j = ce (I 70) → (∀ m, m < i → (fcn (I 70) pl p q m && decide (nI (cntF (fcn (I 70) pl p q) m) = k)) = false) → xrun z0 (xcall (d + 1)) Q 323 6 [.ref 65, .int pl, .int (nI p), .int (nI q), .int k, .int (nI (cntF (fcn (I 70) pl p q) i)), .int (nI i), w7, w8] [] S I J r cu su
  | 0, i, w7, w8, hi, hn => by
    have e : i = ce (I 70) := by omega
    subst e
    refine K323_6 hL (r259 hL w (K323_12 hL (yes (Int32.le_refl _) (hN (fun h => ?_)))))
    have h2 := kth_y h
    rw [hn _ h] at h2; cases h2
  | j + 1, i, w7, w8, hi, hn => by
    have hN' := ce_le w
    have hpq : p * q ≤ 30 := Nat.le_trans (Nat.mul_le_mul hp.2 hq.2) (by decide)
    have hcl := cntF_le (fcn (I 70) pl p q) i
    have nx : ∀ (b : Bool) (c1 : Int32) w7 w8, fcn (I 70) pl p q i = b → c1 = nI (cntF (fcn (I 70) pl p q) i + (if b = true then 1 else 0)) → (fcn (I 70) pl p q i && decide (nI (cntF (fcn (I 70) pl p q) i) = k)) = false → xrun z0 (xcall (d + 1)) Q 323 6 [.ref 65, .int pl, .int (nI p), .int (nI q), .int k, .int c1, .int (nI i + nI 1), w7, w8] [] S I J r cu su := fun b c1 w7 w8 h1 h2 h3 => by
      have := k323 (d := d) (cu := cu) (su := su) hL w hp hq hY hN j (i + 1) w7 w8 (by omega) (fun m hm => by
        rcases Nat.lt_or_ge m i with q1 | q1
        · exact hn m q1
        · have : m = i := by omega
          subst this; exact h3)
      rw [cntF, h1, ← h2] at this
      rw [nI_add]; exact this
    have h00 : ¬ fitc (I 70) pl p q i → ∀ m, m ≤ p * q → xrun z0 (xcall (d + 1)) Q 323 28 [.ref 65, .int pl, .int (nI p), .int (nI q), .int k, .int (nI (cntF (fcn (I 70) pl p q) i)), .int (nI i), .int (nI 0), .int (nI m)] [] S I J r cu su := fun hf m hm => by
      have h1 : fcn (I 70) pl p q i = false := by rw [← Bool.not_eq_true, fcn_t]; exact hf
      have h2 := nx false _ (.int (nI 0)) (.int (nI m)) h1 rfl (by rw [h1]; rfl)
      refine K323_28 ⟨fun _ => yes rfl (yes rfl ?_), fun _ => yes rfl (yes rfl (yes rfl ?_))⟩
      all_goals rw [nI_add (cntF (fcn (I 70) pl p q) i) 0]
      all_goals exact h2
    have h11 : fitc (I 70) pl p q i → xrun z0 (xcall (d + 1)) Q 323 28 [.ref 65, .int pl, .int (nI p), .int (nI q), .int k, .int (nI (cntF (fcn (I 70) pl p q) i)), .int (nI i), .int (nI 1), .int (nI (p * q))] [] S I J r cu su := fun hf => by
      have h1 : fcn (I 70) pl p q i = true := fcn_t.mpr hf
      refine K323_28 (yes (by rw [pk_mul]; exact Int32.le_refl _) (no (by decide) ?_))
      by_cases hk : nI (cntF (fcn (I 70) pl p q) i) = k
      · refine nno hk ?_
        have h3 : kth (fcn (I 70) pl p q) k (ce (I 70)) = i := lst_is (by omega) (by rw [h1, decide_eq_true hk]; rfl) hn
        have := hY (by omega)
        rw [h3] at this
        exact this
      · refine yes hk (no (by decide) ?_)
        rw [nI_add (cntF (fcn (I 70) pl p q) i) 1]
        exact nx true _ _ _ h1 rfl (by rw [h1, decide_eq_false hk]; rfl)
    refine K323_6 hL (r259 hL w (K323_12 hL (no (by rw [nI_leI (by omega) (by omega)]; omega) (r324 hL w (by omega) hp hq (fun hb => K323_23 ?_) (fun hb => K323_23 (h00 (fun h => hb h.1) 0 (by omega)))))))
    exact k323i hL w hp hq (by omega) hb (fun _ _ h _ => h) h11 h00 (p * q) 0 (by omega) (fun x hx => by omega)
theorem r323 {d : Nat} {Q : XQ} {S : XS} {I : XI} {J : XJ} {r : XR} {p q : Nat} {pl k : Int32} (hL : LAY S r) (w : WF (I 70)) (hp : 1 ≤ p ∧ p ≤ 6) (hq : 1 ≤ q ∧ q ≤ 5)
    (hY : kth (fcn (I 70) pl p q) k (ce (I 70)) < ce (I 70) → Q (some (.int (nI (kth (fcn (I 70) pl p q) k (ce (I 70)))))) S I J r)
    (hN : ¬ kth (fcn (I 70) pl p q) k (ce (I 70)) < ce (I 70) → Q (some (.int (-1))) S (up2 I 65 28 (nI (cntF (fcn (I 70) pl p q) (ce (I 70))))) J r) : xcall (d + 2) 323 [.ref 65, .int pl, .int (nI p), .int (nI q), .int k] S I J r Q :=
  E323 (k323 hL w hp hq hY hN (ce (I 70)) 0 _ _ (by omega) (fun m hm => by omega))
theorem ct_fcn {B : Nat → Int32} {x : Int32} {P : Nat → Bool} (h : ∀ i, i < 32 → (bt x i = true ↔ i < ce B ∧ P i = true)) : ∀ n, n ≤ ce B → n ≤ 32 → ctN x n = cntF P n
  | 0, _, _ => rfl
  | n + 1, h1, h2 => by
    rw [ctN, cntF, ct_fcn h n (by omega) (by omega)]
    have := h n (by omega)
    by_cases q : bt x n = true
    · rw [if_pos q, if_pos (this.mp q).2]
    · rw [if_neg q, if_neg (fun p => q (this.mpr ⟨by omega, p⟩))]
theorem ct_fc {B : Nat → Int32} (hB : WF B) {x : Int32} {P : Nat → Bool} (h : ∀ i, i < 32 → (bt x i = true ↔ i < ce B ∧ P i = true)) : ctN x 32 = cntF P (ce B) := by
  have hN := ce_le hB
  rw [← ct_fcn h (ce B) (Nat.le_refl _) (by omega)]
  refine ctN_top (fun i h1 h2 => ?_) 32 (by omega) (Nat.le_refl _)
  rw [← Bool.not_eq_true, h i h2]
  omega
noncomputable def q152 (B : Nat → Int32) (I : XI) (J : XJ) (x n w h : Int32) : Nat × Int32 := if wnf I J x n w h ≠ 0 then (wnf I J x n w h, -1) else (0, nI (cntF (fcn B (plc J (cl x) (cl n)) (cl w) (cl h)) (ce B)))
theorem wnf_0 {I : XI} {J : XJ} {x n w h : Int32} (e : wnf I J x n w h = 0) : cl x < 4 ∧ x = nI (cl x) ∧ cl n ≤ 20 ∧ n = nI (cl n) ∧ (1 ≤ cl w ∧ cl w ≤ 6) ∧ w = nI (cl w) ∧ (1 ≤ cl h ∧ cl h ≤ 5) ∧ h = nI (cl h) := by
  unfold wnf at e
  split at e
  · rename_i q; exact absurd e q
  · rename_i q
    have q' : lkf I x n = 0 := Decidable.byContradiction q
    obtain ⟨l1, l2, _, _⟩ := lkf_0 q'
    split at e
    · rename_i q2
      obtain ⟨a1, a2, a3, _⟩ := q2
      obtain ⟨n1, n2⟩ := okx_cl a1
      obtain ⟨p1, p2, p3⟩ := okr_cl (lo := 1) (hi := 6) a2 (by decide)
      obtain ⟨p4, p5, p6⟩ := okr_cl (lo := 1) (hi := 5) a3 (by decide)
      exact ⟨l1, l2, by omega, n2, ⟨p1, p2⟩, p3, ⟨p4, p5⟩, p6⟩
    · cases e
theorem c152 {d : Nat} {Q : XQ} {S : XS} {I : XI} {J : XJ} {r : XR} {x n w h : Int32} {B : Nat → Int32} {W : Nat → Int64} (hL : LAY S r) (c : CR I J 28 B W) (t : TR I J) (hQ : QC Q S I J r (q152 B I J x n w h).1 (q152 B I J x n w h).2) : xcall (d + 5) 152 [.ref 0, .int x, .int n, .int w, .int h] S I J r Q := by
  have hw := wnf_le (I := I) (J := J) (x := x) (n := n) (w := w) (h := h)
  refine E152 hL (c153 hL t (K152_9 hL ?_))
  unfold q152 at hQ
  by_cases e : wnf I J x n w h = 0
  · rw [if_neg (fun q => q e)] at hQ
    obtain ⟨a1, a2, a3, a4, a5, a6, a7, a8⟩ := wnf_0 e
    rw [e]
    rw [a2, a4, a6, a8]
    generalize cl x = x' at *
    generalize cl n = n' at *
    generalize cl w = w' at *
    generalize cl h = h' at *
    refine yes rfl (c155 hL t a1 a3 (K152_37 hL (c156 (lay0_28 hL) c a5 a7 (fun y hy => K152_43 (c78 (K152_46 hL (E83 hL (K152_49 ?_))))))))
    rw [ct_fc c.wf (P := fcn B (plc J x' n') w' h') (fun i hi => by rw [hy i hi, fcn_t])]
    exact hQ.e (ix.r I)
  · rw [if_pos e] at hQ
    exact no (fun q => e ((nI_eq (by omega) (by decide)).mp q)) (E31 hL (K152_22 (hQ.e (ix.r I))))
theorem cntF_99 {P : Nat → Bool} {n : Nat} (hn : n ≤ 30) : ¬ kth P (nI 99) n < n := fun h => by
  have h2 := kth_y h
  rw [Bool.and_eq_true, decide_eq_true_eq] at h2
  have h3 := cntF_le P (kth P (nI 99) n)
  have := (nI_eq (by omega) (by decide)).mp h2.2
  omega
theorem r319 {d : Nat} {Q : XQ} {S : XS} {I : XI} {J : XJ} {r : XR} {x n w h : Int32} (hL : LAY S r) (wf : WF (I 70)) (t : TR I J) (hQ : QM Q S I J r (q152 (I 70) I J x n w h).1 (q152 (I 70) I J x n w h).2) : xcall (d + 4) 319 [.ref 65, .int x, .int n, .int w, .int h] S I J r Q := by
  have hw := wnf_le (I := I) (J := J) (x := x) (n := n) (w := w) (h := h)
  have hN := ce_le wf
  refine E319 hL (r320 hL (by exact t) ?_)
  show xrun z0 _ Q 319 15 [_, _, _, _, _] [.int (nI (wnf I J x n w h)), .ref 65] S (up2 I 65 1 (nI 0)) J r _ _
  refine K319_15 hL ?_
  have i1 : ix I (up2 I 65 1 (nI 0)) := (ix.r I).u rfl
  unfold q152 at hQ
  by_cases e : wnf I J x n w h = 0
  · rw [if_neg (fun q => q e)] at hQ
    obtain ⟨a1, a2, a3, a4, a5, a6, a7, a8⟩ := wnf_0 e
    refine yes ((up_le0 (by omega)).mpr e) ?_
    rw [e]
    rw [a2, a4, a6, a8]
    generalize cl x = x' at *
    generalize cl n = n' at *
    generalize cl w = w' at *
    generalize cl h = h' at *
    refine r322 hL a1 a3 (K319_34 hL (r323 hL wf a5 a7 (fun hy => absurd hy (cntF_99 hN.2)) (fun _ => K319_42 hL ?_)))
    rw [up_e]
    exact hQ _ ((i1.u rfl).u rfl) rfl rfl
  · rw [if_pos e] at hQ
    exact no (fun q => e ((up_le0 (by omega)).mp q)) (hQ.e i1 rfl)
noncomputable def q159 (B : Nat → Int32) (I : XI) (J : XJ) (x n w h k : Int32) : Nat × Int32 := if wnf I J x n w h ≠ 0 then (wnf I J x n w h, -1) else if kth (fcn B (plc J (cl x) (cl n)) (cl w) (cl h)) k (ce B) < ce B then (0, nI (kth (fcn B (plc J (cl x) (cl n)) (cl w) (cl h)) k (ce B))) else (8, -1)
theorem k159 {d : Nat} {Q : XQ} {S : XS} {I : XI} {J : XJ} {r : XR} {cu su : Nat} {y k : Int32} {P : Nat → Bool} {N : Nat} {w1 w2 w3 w4 w6 : Value} (hL : LAY S r) (hN : N ≤ 30) (hy : ∀ i, i < 32 → (bt y i = true ↔ i < N ∧ P i = true)) (h1 : kth P k N < N → Q (some (.int (nI (kth P k N)))) S (up2 I 0 13 (nI 0)) J r) (h2 : ¬ kth P k N < N → Q (some (.int (-1))) S (up2 I 0 13 (nI 8)) J r) :
    ∀ j i, i + j = 30 → (∀ m, m < i → m < N → (P m && decide (nI (cntF P m) = k)) = false) → xrun z0 (xcall (d + 1)) Q 159 50 [.ref 0, w1, w2, w3, w4, .int k, w6, .int y, .int (nI (cntF P (min i N))), .int (nI i)] [] S I J r cu su
  | 0, i, hi, hn => by
    have e : i = 30 := by omega
    subst e
    refine K159_50 hL (yes (Int32.le_refl _) (E31 hL (K159_96 (h2 (fun h => ?_)))))
    have h3 := kth_y h
    rw [hn _ (by omega) h] at h3; cases h3
  | j + 1, i, hi, hn => by
    have hcl := cntF_le P (min i N)
    refine K159_50 hL (no (by rw [nI_leI (by omega) (by omega)]; omega) ?_)
    rw [bt_down (by omega), nI_add, nI_add]
    have nx : (i < N → (P i && decide (nI (cntF P i) = k)) = false) → ∀ c1, c1 = cntF P (min (i + 1) N) → xrun z0 (xcall (d + 1)) Q 159 50 [.ref 0, w1, w2, w3, w4, .int k, w6, .int y, .int (nI c1), .int (nI (i + 1))] [] S I J r cu su := fun h3 c1 hc => by
      rw [hc]
      refine k159 hL hN hy h1 h2 j (i + 1) (by omega) (fun m hm hmN => ?_)
      rcases Nat.lt_or_ge m i with q1 | q1
      · exact hn m q1 hmN
      · have : m = i := by omega
        subst this; exact h3 hmN
    cases hb : bt y i
    · refine yes rfl (nx (fun h3 => ?_) _ ?_)
      · have : P i = false := by
          rw [← Bool.not_eq_true]; intro q
          have := (hy i (by omega)).mpr ⟨h3, q⟩
          rw [hb] at this; cases this
        rw [this]; rfl
      · rcases Nat.lt_or_ge i N with q | q
        · rw [Nat.min_eq_left (by omega), Nat.min_eq_left (by omega), cntF, if_neg]; rfl
          intro q2
          have := (hy i (by omega)).mpr ⟨q, q2⟩
          rw [hb] at this; cases this
        · rw [Nat.min_eq_right (by omega), Nat.min_eq_right (by omega)]
    · have hi2 := (hy i (by omega)).mp hb
      rw [Nat.min_eq_left (by omega)] at hcl ⊢
      refine no (by decide) ?_
      by_cases hk : nI (cntF P i) = k
      · refine nno hk (E83 hL (K159_80 ?_))
        have h3 : kth P k N = i := lst_is hi2.1 (by rw [hi2.2, decide_eq_true hk]; rfl) (fun m hm => hn m hm (by omega))
        have := h1 (by omega)
        rw [h3] at this
        exact this
      · refine yes hk (nx (fun _ => by rw [hi2.2, decide_eq_false hk]; rfl) _ ?_)
        rw [Nat.min_eq_left (by omega), cntF, if_pos hi2.2]
theorem c159 {d : Nat} {Q : XQ} {S : XS} {I : XI} {J : XJ} {r : XR} {x n w h k : Int32} {B : Nat → Int32} {W : Nat → Int64} (hL : LAY S r) (c : CR I J 28 B W) (t : TR I J) (hQ : QC Q S I J r (q159 B I J x n w h k).1 (q159 B I J x n w h k).2) : xcall (d + 5) 159 [.ref 0, .int x, .int n, .int w, .int h, .int k] S I J r Q := by
  have hw := wnf_le (I := I) (J := J) (x := x) (n := n) (w := w) (h := h)
  have hN := ce_le c.wf
  refine E159 hL (c153 hL t (K159_9 hL ?_))
  unfold q159 at hQ
  by_cases e : wnf I J x n w h = 0
  · rw [if_neg (fun q => q e)] at hQ
    obtain ⟨a1, a2, a3, a4, a5, a6, a7, a8⟩ := wnf_0 e
    rw [e]
    rw [a2, a4, a6, a8]
    generalize cl x = x' at *
    generalize cl n = n' at *
    generalize cl w = w' at *
    generalize cl h = h' at *
    refine yes rfl (c155 hL t a1 a3 (K159_36 hL (c156 (lay0_28 hL) c a5 a7 (fun y hy => K159_42 ?_))))
    have key := fun h1 h2 => k159 (d := d + 3) (cu := 0) (su := 0) (Q := Q) (I := I) (J := J) (k := k) (w1 := .int (nI x')) (w2 := .int (nI n')) (w3 := .int (nI w')) (w4 := .int (nI h')) (w6 := xkp (.int (nI 0))) hL hN.2 (P := fcn B (plc J x' n') w' h') (fun i hi => by rw [hy i hi, fcn_t]) h1 h2 30 0 (by omega) (fun m hm => by omega)
    rw [Nat.zero_min] at key
    refine key (fun h1 => ?_) (fun h1 => ?_)
    · rw [if_pos h1] at hQ; exact hQ.e (ix.r I)
    · rw [if_neg h1] at hQ; exact hQ.e (ix.r I)
  · rw [if_pos e] at hQ
    exact no (fun q => e ((nI_eq (by omega) (by decide)).mp q)) (E31 hL (K159_22 (hQ.e (ix.r I))))
theorem kth_neg {P : Nat → Bool} {k : Int32} {n : Nat} (hn : n ≤ 30) (hk : ¬ 0 ≤ k) : ¬ kth P k n < n := fun h => by
  have h2 := kth_y h
  rw [Bool.and_eq_true, decide_eq_true_eq] at h2
  have h3 := cntF_le P (kth P k n)
  rw [← h2.2] at hk
  exact hk (nI_pos' (by omega))
theorem r326 {d : Nat} {Q : XQ} {S : XS} {I : XI} {J : XJ} {r : XR} {x n w h k : Int32} (hL : LAY S r) (wf : WF (I 70)) (t : TR I J) (hQ : QM Q S I J r (q159 (I 70) I J x n w h k).1 (q159 (I 70) I J x n w h k).2) : xcall (d + 4) 326 [.ref 65, .int x, .int n, .int w, .int h, .int k] S I J r Q := by
  have hw := wnf_le (I := I) (J := J) (x := x) (n := n) (w := w) (h := h)
  have hN := ce_le wf
  refine E326 hL (r320 hL (by exact t) ?_)
  show xrun z0 _ Q 326 15 [_, _, _, _, _, _, _] [.int (nI (wnf I J x n w h)), .ref 65] S (up2 I 65 1 (nI 0)) J r _ _
  refine K326_15 hL ?_
  have i1 : ix I (up2 I 65 1 (nI 0)) := (ix.r I).u rfl
  unfold q159 at hQ
  by_cases e : wnf I J x n w h = 0
  · rw [if_neg (fun q => q e)] at hQ
    obtain ⟨a1, a2, a3, a4, a5, a6, a7, a8⟩ := wnf_0 e
    refine yes ((up_le0 (by omega)).mpr e) ?_
    rw [e]
    rw [a2, a4, a6, a8]
    generalize cl x = x' at *
    generalize cl n = n' at *
    generalize cl w = w' at *
    generalize cl h = h' at *
    by_cases hk : (0 : Int32) ≤ k
    · refine yes hk (r322 hL a1 a3 (K326_43 hL (r323 hL wf a5 a7 (fun h1 => K326_51 hL ?_) (fun h1 => K326_51 hL (no (by decide) ?_)))))
      · have h1' : kth (fcn (I 70) (plc J x' n') w' h') k (ce (I 70)) < ce (I 70) := h1
        rw [if_pos h1'] at hQ
        exact yes (nI_pos' (by have := h1; show kth (fcn (I 70) (plc J x' n') w' h') k (ce (I 70)) < _; omega)) (hQ _ (i1.u rfl) rfl rfl)
      · have h1' : ¬ kth (fcn (I 70) (plc J x' n') w' h') k (ce (I 70)) < ce (I 70) := h1
        rw [if_neg h1'] at hQ
        exact E261 hL (K326_64 (hQ.e ((i1.u rfl).u rfl) rfl))
    · rw [if_neg (kth_neg hN.2 hk)] at hQ
      exact no hk (K326_51 hL (no (by decide) (E261 hL (K326_64 (hQ.e (i1.u rfl) rfl)))))
  · rw [if_pos e] at hQ
    exact no (fun q => e ((up_le0 (by omega)).mp q)) (hQ.e i1 rfl)
