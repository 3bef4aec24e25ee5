/-! the class's coast at a holds (B, W) -/
def CR (I : XI) (J : XJ) (a : Nat) (B : Nat → Int32) (W : Nat → Int64) : Prop :=
  WF B ∧ (I a 0 = B 0 ∧ I a 1 = B 1 ∧ I a 2 = B 4 ∧ I a 3 = B 2 ∧ I a 7 = B 3 ∧ I a 15 = vset B ∧ I a 16 = B 5 ∧ I a 17 = B 6) ∧
  (∀ i, i < bn B 2 → I (a + 1) i = B (7 + i) ∧ I (a + 2) i = B (22 + i)) ∧ (∀ t, t < 11 → I (a + 3) t = shal B t) ∧
  ∀ k, k < bn B 3 → J (a + 4) k = W k ∧ I (a + 5) k = B (37 + k) ∧ I (a + 6) k = B (43 + k) ∧ I (a + 7) k = B (49 + k) ∧ I (a + 8) k = pat B k ∧ I (a + 9) k = B (55 + k) ∧ I (a + 10) k = B (67 + k)
theorem CR.wf {I : XI} {J : XJ} {a : Nat} {B : Nat → Int32} {W : Nat → Int64} (c : CR I J a B W) : WF B := c.1
theorem CR.n0 {I : XI} {J : XJ} {a : Nat} {B : Nat → Int32} {W : Nat → Int64} (c : CR I J a B W) : I a 0 = nI (bn B 0) := c.2.1.1.trans c.1.w.1
theorem CR.n1 {I : XI} {J : XJ} {a : Nat} {B : Nat → Int32} {W : Nat → Int64} (c : CR I J a B W) : I a 1 = nI (bn B 1) := c.2.1.2.1.trans c.1.h.1
theorem CR.n2 {I : XI} {J : XJ} {a : Nat} {B : Nat → Int32} {W : Nat → Int64} (c : CR I J a B W) : I a 2 = nI (bn B 4) := c.2.1.2.2.1.trans c.1.o.1
theorem CR.n3 {I : XI} {J : XJ} {a : Nat} {B : Nat → Int32} {W : Nat → Int64} (c : CR I J a B W) : I a 3 = nI (bn B 2) := c.2.1.2.2.2.1.trans c.1.r.1
theorem CR.n7 {I : XI} {J : XJ} {a : Nat} {B : Nat → Int32} {W : Nat → Int64} (c : CR I J a B W) : I a 7 = nI (bn B 3) := c.2.1.2.2.2.2.1.trans c.1.c.1
theorem CR.n15 {I : XI} {J : XJ} {a : Nat} {B : Nat → Int32} {W : Nat → Int64} (c : CR I J a B W) : I a 15 = vset B := c.2.1.2.2.2.2.2.1
theorem CR.n16 {I : XI} {J : XJ} {a : Nat} {B : Nat → Int32} {W : Nat → Int64} (c : CR I J a B W) : I a 16 = B 5 := c.2.1.2.2.2.2.2.2.1
theorem CR.n17 {I : XI} {J : XJ} {a : Nat} {B : Nat → Int32} {W : Nat → Int64} (c : CR I J a B W) : I a 17 = B 6 := c.2.1.2.2.2.2.2.2.2
theorem CR.cl {I : XI} {J : XJ} {a : Nat} {B : Nat → Int32} {W : Nat → Int64} (c : CR I J a B W) {i : Nat} (h : i < bn B 2) : I (a + 1) i = nI (bn B (7 + i)) := (c.2.2.1 i h).1.trans (c.1.cl h).1
theorem CR.dp {I : XI} {J : XJ} {a : Nat} {B : Nat → Int32} {W : Nat → Int64} (c : CR I J a B W) {i : Nat} (h : i < bn B 2) : I (a + 2) i = nI (bn B (22 + i)) := (c.2.2.1 i h).2.trans (c.1.dp h).1
theorem CR.sh {I : XI} {J : XJ} {a : Nat} {B : Nat → Int32} {W : Nat → Int64} (c : CR I J a B W) {t : Nat} (h : t < 11) : I (a + 3) t = shal B t := c.2.2.2.1 t h
theorem CR.nm {I : XI} {J : XJ} {a : Nat} {B : Nat → Int32} {W : Nat → Int64} (c : CR I J a B W) {k : Nat} (h : k < bn B 3) : J (a + 4) k = W k := (c.2.2.2.2 k h).1
theorem CR.at' {I : XI} {J : XJ} {a : Nat} {B : Nat → Int32} {W : Nat → Int64} (c : CR I J a B W) {k : Nat} (h : k < bn B 3) : I (a + 5) k = nI (bn B (37 + k)) := (c.2.2.2.2 k h).2.1.trans (c.1.at' h).1
theorem CR.br {I : XI} {J : XJ} {a : Nat} {B : Nat → Int32} {W : Nat → Int64} (c : CR I J a B W) {k : Nat} (h : k < bn B 3) : I (a + 6) k = nI (bn B (43 + k)) := (c.2.2.2.2 k h).2.2.1.trans (c.1.br h).1
theorem CR.tl {I : XI} {J : XJ} {a : Nat} {B : Nat → Int32} {W : Nat → Int64} (c : CR I J a B W) {k : Nat} (h : k < bn B 3) : I (a + 7) k = nI (bn B (49 + k)) := (c.2.2.2.2 k h).2.2.2.1.trans (c.1.tl h).1
theorem CR.pt {I : XI} {J : XJ} {a : Nat} {B : Nat → Int32} {W : Nat → Int64} (c : CR I J a B W) {k : Nat} (h : k < bn B 3) : I (a + 8) k = pat B k := (c.2.2.2.2 k h).2.2.2.2.1
theorem CR.tn {I : XI} {J : XJ} {a : Nat} {B : Nat → Int32} {W : Nat → Int64} (c : CR I J a B W) {k : Nat} (h : k < bn B 3) : I (a + 9) k = nI (bn B (55 + k)) := (c.2.2.2.2 k h).2.2.2.2.2.1.trans (c.1.tn h).1
theorem CR.ik {I : XI} {J : XJ} {a : Nat} {B : Nat → Int32} {W : Nat → Int64} (c : CR I J a B W) {k : Nat} (h : k < bn B 3) : I (a + 10) k = B (67 + k) := (c.2.2.2.2 k h).2.2.2.2.2.2
/-! its small methods -/
theorem c72 {d : Nat} {Q : XQ} {S : XS} {I : XI} {J : XJ} {r : XR} {a n : Nat} {x : Int32} (h0 : LY0 S r a) (hn : I a 7 = nI n) (hb : n < 1000000) (hT : ∀ k, k < n → x = nI k → Q (some (.int 1)) S I J r) (hF : ¬ (0 ≤ x.toInt ∧ x.toInt < n) → Q (some (.int 0)) S I J r) : xcall (d + 1) 72 [.ref a, .int x] S I J r Q := by
  refine E72 h0 ⟨fun c => hF ?_, fun c => ⟨fun c2 => hF ?_, fun c2 => ?_⟩⟩
  · simp only [i_lt, i_z] at c; omega
  · rw [hn, i_le, i_toI (by omega)] at c2; omega
  · rw [hn, i_le, i_toI (by omega)] at c2
    simp only [i_lt, i_z] at c
    obtain ⟨k, h1, h2, _⟩ := i_in (x := x) (n := n) (by omega) (by omega)
    exact hT k h1 h2
theorem c72y {d : Nat} {Q : XQ} {S : XS} {I : XI} {J : XJ} {r : XR} {a n k : Nat} (h0 : LY0 S r a) (hn : I a 7 = nI n) (hb : n < 1000000) (hk : k < n) (hQ : Q (some (.int 1)) S I J r) : xcall (d + 1) 72 [.ref a, .int (nI k)] S I J r Q :=
  c72 h0 hn hb (fun _ _ _ => hQ) (fun h => absurd (by rw [i_toI (by omega)]; omega) h)
theorem c76 {d : Nat} {Q : XQ} {S : XS} {I : XI} {J : XJ} {r : XR} {a : Nat} {B : Nat → Int32} {W : Nat → Int64} {x : Int32} (h0 : LY0 S r a) (c : CR I J a B W) (hT : ∀ k, k < ce B → x = nI k → Q (some (.int 1)) S I J r) (hF : ¬ (0 ≤ x.toInt ∧ x.toInt < ce B) → Q (some (.int 0)) S I J r) : xcall (d + 1) 76 [.ref a, .int x] S I J r Q := by
  have hb := ce_le c.wf
  refine E76 h0 ⟨fun c => hF ?_, fun c1 => ?_⟩
  · simp only [i_lt, i_z] at c; omega
  rw [c.n0, c.n1, pk_mul]
  refine ⟨fun c2 => hF ?_, fun c2 => ?_⟩
  · rw [i_le, i_toI (by unfold ce at hb; omega)] at c2; unfold ce; omega
  · rw [i_le, i_toI (by unfold ce at hb; omega)] at c2
    simp only [i_lt, i_z] at c1
    obtain ⟨k, h1, h2, _⟩ := i_in (x := x) (n := ce B) (by omega) (by unfold ce; omega)
    exact hT k h1 h2
theorem c76y {d : Nat} {Q : XQ} {S : XS} {I : XI} {J : XJ} {r : XR} {a k : Nat} {B : Nat → Int32} {W : Nat → Int64} (h0 : LY0 S r a) (c : CR I J a B W) (hk : k < ce B) (hQ : Q (some (.int 1)) S I J r) : xcall (d + 1) 76 [.ref a, .int (nI k)] S I J r Q :=
  c76 h0 c (fun _ _ _ => hQ) (fun h => absurd (by have := ce_le c.wf; rw [i_toI (by omega)]; omega) h)
theorem c74 {d : Nat} {Q : XQ} {S : XS} {I : XI} {J : XJ} {r : XR} {a k : Nat} {B : Nat → Int32} {W : Nat → Int64} (h0 : LY0 S r a) (c : CR I J a B W) (hk : k < bn B 3) (h1 : B (61 + k) = 1 → Q (some (.int 0)) S I J r) (h2 : B (61 + k) = 0 → Q (some (.int 1)) S I J r) : xcall (d + 1) 74 [.ref a, .int (nI k)] S I J r Q := by
  have hb := c.wf.c.2
  refine E74 h0 ?_
  rw [c.n15, bt_down (by omega)]
  rcases c.wf.ve hk with e | e
  · have : bt (vset B) k = false := by
      rw [← Bool.not_eq_true, bt_vset c.wf (by omega), e]; simp
    rw [this]
    exact nno (by decide) (h2 e)
  · have : bt (vset B) k = true := by rw [bt_vset c.wf (by omega), e]; simp [hk]
    rw [this]
    exact yes (by decide) (h1 e)
theorem c67 {d : Nat} {Q : XQ} {S : XS} {I : XI} {J : XJ} {r : XR} {a k : Nat} {B : Nat → Int32} {W : Nat → Int64} (h0 : LY0 S r a) (c : CR I J a B W) (hk : k < 1000000) (hQ : Q (some (.int (nI (k % bn B 0)))) S I J r) : xcall (d + 1) 67 [.ref a, .int (nI k)] S I J r Q := by
  have hb := c.wf.w
  refine E67 h0 ?_
  rw [c.n0]
  refine no (nI_nle (by omega) (by omega)) ⟨nI_ne0 (by omega) (by omega), ?_⟩
  rw [pk_rem (by omega) (by omega) (by omega)]
  exact hQ
theorem c68 {d : Nat} {Q : XQ} {S : XS} {I : XI} {J : XJ} {r : XR} {a k : Nat} {B : Nat → Int32} {W : Nat → Int64} (h0 : LY0 S r a) (c : CR I J a B W) (hk : k < 1000000) (hQ : Q (some (.int (nI (k / bn B 0)))) S I J r) : xcall (d + 1) 68 [.ref a, .int (nI k)] S I J r Q := by
  have hb := c.wf.w
  refine E68 h0 ?_
  rw [c.n0]
  refine no (nI_nle (by omega) (by omega)) ⟨nI_ne0 (by omega) (by omega), ?_⟩
  rw [pk_div (by omega) (by omega) (by omega)]
  exact hQ
theorem c99 {d : Nat} {Q : XQ} {S : XS} {I : XI} {J : XJ} {r : XR} {a : Nat} {B : Nat → Int32} {W : Nat → Int64} (h0 : LY0 S r a) (c : CR I J a B W) (hQ : Q (some (.int (rset B))) S I J r) : xcall (d + 1) 99 [.ref a] S I J r Q := by
  refine E99 h0 ?_
  rw [pk_sub (by decide)]
  refine ⟨vp_in_nI (by decide) (by decide), ?_⟩
  rw [nI_clamp (by decide), c.sh (by decide), shal_top c.wf (by decide)]
  exact hQ
theorem c106 {d : Nat} {Q : XQ} {S : XS} {I : XI} {J : XJ} {r : XR} {a t : Nat} {B : Nat → Int32} {W : Nat → Int64} (h0 : LY0 S r a) (c : CR I J a B W) (ht : t ≤ 10) (hQ : Q (some (.int (shal B t))) S I J r) : xcall (d + 2) 106 [.ref a, .int (nI t)] S I J r Q := by
  refine E106 h0 (yes (nI_pos' (by omega)) ?_)
  rw [pk_sub (by decide)]
  refine c34 (by omega) (by decide) (K106_23 h0 ⟨vp_in_nI (by omega) (by decide), ?_⟩)
  rw [nI_clamp (by omega), Nat.min_eq_left (by omega), c.sh (by omega)]
  exact hQ
theorem c105 {d : Nat} {Q : XQ} {S : XS} {I : XI} {J : XJ} {r : XR} {a k : Nat} {B : Nat → Int32} {W : Nat → Int64} (h0 : LY0 S r a) (c : CR I J a B W) (hk : k < bn B 3) (hQ : Q (some (.int (shown B k))) S I J r) : xcall (d + 3) 105 [.ref a, .int (nI k)] S I J r Q := by
  have hb := c.wf.c.2
  refine E105 h0 (c72y h0 c.n7 (by omega) hk (K105_5 h0 (e1 (c74 h0 c hk (fun e => K105_13 h0 (f0 ?_)) (fun e => K105_13 h0 (f1 ⟨vp_in_nI (by omega) (by decide), vp_in_nI (by omega) (by decide), ?_⟩))))))
  · unfold shown at hQ
    rw [e, if_pos rfl] at hQ
    exact hQ
  · rw [nI_clamp (by omega), c.tn hk, c.pt hk]
    refine c106 h0 c (by have := (c.wf.tn hk).2; omega) (K105_34 h0 ⟨vp_in_nI (by omega) (by decide), ?_⟩)
    rw [nI_clamp (by omega), c.ik hk, shown_cls c.wf hk e]
    exact hQ
theorem k60 {d : Nat} {Q : XQ} {S : XS} {I : XI} {J : XJ} {r : XR} {cu su : Nat} {a x : Nat} {B : Nat → Int32} {W : Nat → Int64} (h0 : LY0 S r a) (c : CR I J a B W) (hx : x < 1000000) (h1 : ∀ q, q < bn B 2 → bn B (7 + q) = x → Q (some (.int (nI (bn B (22 + q))))) S I J r) (h2 : (∀ q, q < bn B 2 → bn B (7 + q) ≠ x) → Q (some (.int (-1))) S I J r) : ∀ j i, i + j = bn B 2 → (∀ q, q < i → bn B (7 + q) ≠ x) → xrun z0 (xcall d) Q 60 2 [.ref a, .int (nI x), .int (nI i)] [] S I J r cu su
  | 0, i, hi, hn => by
    have hb := c.wf.r.2
    refine K60_2 h0 (yes ?_ (h2 (fun q hq => hn q (by omega))))
    rw [c.n3, nI_leI (by omega) (by omega)]; omega
  | j + 1, i, hi, hn => by
    have hb := c.wf.r.2
    have hc := c.wf.cl (r := i) (by omega)
    refine K60_2 h0 (no ?_ ⟨vp_in_nI (by omega) (by decide), ?_⟩)
    · rw [c.n3, nI_leI (by omega) (by omega)]; omega
    rw [nI_clamp (by omega), c.cl (by omega), c.dp (by omega), nI_add]
    by_cases he : bn B (7 + i) = x
    · exact nno (by rw [he]) ⟨vp_in_nI (by omega) (by decide), h1 i (by omega) he⟩
    · refine yes ?_ (k60 h0 c hx h1 h2 j (i + 1) (by omega) (fun q hq => ?_))
      · rw [nI_eqI (by omega) (by omega)]; exact he
      · rcases (show q < i ∨ q = i by omega) with q1 | q1
        · exact hn q q1
        · rw [q1]; exact he
theorem c60 {d : Nat} {Q : XQ} {S : XS} {I : XI} {J : XJ} {r : XR} {a x : Nat} {B : Nat → Int32} {W : Nat → Int64} (h0 : LY0 S r a) (c : CR I J a B W) (hx : x < 1000000) (h1 : ∀ q, q < bn B 2 → bn B (7 + q) = x → Q (some (.int (nI (bn B (22 + q))))) S I J r) (h2 : (∀ q, q < bn B 2 → bn B (7 + q) ≠ x) → Q (some (.int (-1))) S I J r) : xcall (d + 1) 60 [.ref a, .int (nI x)] S I J r Q :=
  E60 (k60 h0 c hx h1 h2 (bn B 2) 0 (by omega) (fun q hq => by omega))
theorem c121 {d : Nat} {Q : XQ} {S : XS} {I : XI} {J : XJ} {r : XR} {a n : Nat} (h0 : LY0 S r a) (hn : I a 7 = nI n) (hb : n ≤ 6) (hQ : Q (some (.int (nI (2 ^ n)))) S I J r) : xcall (d + 1) 121 [.ref a] S I J r Q := by
  refine E121 h0 ?_
  rw [hn, show (nI 1) <<< (nI n &&& 31) = nI (2 ^ n) from bi_pow n hb]
  exact hQ
theorem c120 {d : Nat} {Q : XQ} {S : XS} {I : XI} {J : XJ} {r : XR} {a n : Nat} {x : Int32} (h0 : LY0 S r a) (hn : I a 7 = nI n) (hb : n ≤ 6) (hT : ∀ s, s < 2 ^ n → x = nI s → Q (some (.int 1)) S I J r) (hF : ¬ (0 ≤ x.toInt ∧ x.toInt < (2 ^ n : Nat)) → Q (some (.int 0)) S I J r) : xcall (d + 2) 120 [.ref a, .int x] S I J r Q := by
  have hp := pow_le hb
  refine E120 h0 ⟨fun c => hF ?_, fun c1 => c121 h0 hn hb (K120_9 ⟨fun c2 => hF ?_, fun c2 => ?_⟩)⟩
  · simp only [i_lt, i_z] at c; omega
  · rw [i_le, i_toI (by omega)] at c2; omega
  · rw [i_le, i_toI (by omega)] at c2
    simp only [i_lt, i_z] at c1
    obtain ⟨k, h1, h2, _⟩ := i_in (x := x) (n := 2 ^ n) (by omega) (by omega)
    exact hT k h1 h2
theorem k124 {d : Nat} {Q : XQ} {S : XS} {I : XI} {J : XJ} {r : XR} {cu su : Nat} {a : Nat} {x : Int32} {B : Nat → Int32} {W : Nat → Int64} (h0 : LY0 S r a) (c : CR I J a B W) (hQ : Q (some (.int (pof B x))) S I J r) : ∀ j i, i + j = bn B 3 → xrun z0 (xcall d) Q 124 4 [.ref a, .int x, .int (orN (fun k => if bt x k = true then pat B k else 0) i), .int (nI i)] [] S I J r cu su
  | 0, i, hi => by
    have hb := c.wf.c.2
    have e : i = bn B 3 := by omega
    subst e
    refine K124_4 h0 (yes ?_ hQ)
    rw [c.n7]; exact Int32.le_refl _
  | j + 1, i, hi => by
    have hb := c.wf.c.2
    have ih := k124 (d := d) (cu := cu) (su := su) h0 c hQ j (i + 1) (by omega)
    rw [orN] at ih
    refine K124_4 h0 (no ?_ ?_)
    · rw [c.n7, nI_leI (by omega) (by omega)]; omega
    rw [bt_down (by omega), nI_add]
    cases hx : bt x i
    · rw [hx, if_neg (by decide), Int32.or_zero] at ih
      exact yes (by decide) ih
    · rw [hx, if_pos rfl] at ih
      refine no (by decide) ⟨vp_in_nI (by omega) (by decide), ?_⟩
      rw [nI_clamp (by omega), c.pt (by omega)]
      exact ih
theorem c124 {d : Nat} {Q : XQ} {S : XS} {I : XI} {J : XJ} {r : XR} {a : Nat} {x : Int32} {B : Nat → Int32} {W : Nat → Int64} (h0 : LY0 S r a) (c : CR I J a B W) (hQ : Q (some (.int (pof B x))) S I J r) : xcall (d + 1) 124 [.ref a, .int x] S I J r Q :=
  E124 (k124 h0 c hQ (bn B 3) 0 (by omega))
theorem pof_cha {B : Nat → Int32} (h : WF B) (x : Int32) : pof B (x &&& (vset B ^^^ (-1 : Int32))) = cha B x := by
  unfold pof cha
  refine orN_congr (fun k hk => ?_)
  have hb := h.c.2
  have e : bt (x &&& (vset B ^^^ (-1 : Int32))) k = true ↔ bt x k = true ∧ B (61 + k) = 0 := by
    rw [b_and, bt_not (by omega), Bool.and_eq_true, Bool.not_eq_true', ← Bool.not_eq_true, bt_vset h (by omega)]
    rcases h.ve hk with q | q <;> rw [q] <;> simp [hk]
  by_cases q : bt x k = true ∧ B (61 + k) = 0
  · rw [if_pos q, if_pos (e.mpr q)]
  · rw [if_neg q, if_neg (fun w => q (e.mp w))]
theorem c123 {d : Nat} {Q : XQ} {S : XS} {I : XI} {J : XJ} {r : XR} {a : Nat} {x : Int32} {B : Nat → Int32} {W : Nat → Int64} (h0 : LY0 S r a) (c : CR I J a B W) (hQ : Q (some (.int (cha B x))) S I J r) : xcall (d + 2) 123 [.ref a, .int x] S I J r Q := by
  refine E123 h0 (c124 h0 c (K123_12 ?_))
  rw [c.n15, pof_cha c.wf]
  exact hQ
theorem k122 {d : Nat} {Q : XQ} {S : XS} {I : XI} {J : XJ} {r : XR} {cu su : Nat} {a : Nat} {x : Int32} {B : Nat → Int32} {W : Nat → Int64} (h0 : LY0 S r a) (c : CR I J a B W) (hQ : Q (some (.int (ope B x))) S I J r) : ∀ j i, i + j = bn B 3 → xrun z0 (xcall (d + 3)) Q 122 4 [.ref a, .int x, .int (orN (fun k => if bt x k = true then shown B k else 0) i), .int (nI i)] [] S I J r cu su
  | 0, i, hi => by
    have hb := c.wf.c.2
    have e : i = bn B 3 := by omega
    subst e
    refine K122_4 h0 (yes ?_ (c123 h0 c (K122_39 hQ)))
    rw [c.n7]; exact Int32.le_refl _
  | j + 1, i, hi => by
    have hb := c.wf.c.2
    have ih := k122 (d := d) (cu := cu) (su := su) h0 c hQ j (i + 1) (by omega)
    rw [orN] at ih
    refine K122_4 h0 (no ?_ ?_)
    · rw [c.n7, nI_leI (by omega) (by omega)]; omega
    rw [bt_down (by omega), nI_add]
    cases hx : bt x i
    · rw [hx, if_neg (by decide), Int32.or_zero] at ih
      exact yes (by decide) ih
    · rw [hx, if_pos rfl] at ih
      refine no (by decide) (c105 h0 c (by omega) (K122_26 ?_))
      rw [nI_add]
      exact ih
theorem c122 {d : Nat} {Q : XQ} {S : XS} {I : XI} {J : XJ} {r : XR} {a : Nat} {x : Int32} {B : Nat → Int32} {W : Nat → Int64} (h0 : LY0 S r a) (c : CR I J a B W) (hQ : Q (some (.int (ope B x))) S I J r) : xcall (d + 4) 122 [.ref a, .int x] S I J r Q :=
  E122 (k122 h0 c hQ (bn B 3) 0 (by omega))
theorem k163 {d : Nat} {Q : XQ} {S : XS} {I : XI} {J : XJ} {r : XR} {cu su : Nat} {a : Nat} {B : Nat → Int32} {W : Nat → Int64} (h0 : LY0 S r a) (c : CR I J a B W) (hQ : Q (some (.int (orN (shown B) (bn B 3) &&& rset B))) S I J r) : ∀ j i, i + j = bn B 3 → xrun z0 (xcall (d + 3)) Q 163 4 [.ref a, .int (orN (shown B) i), .int (nI i)] [] S I J r cu su
  | 0, i, hi => by
    have hb := c.wf.c.2
    have e : i = bn B 3 := by omega
    subst e
    refine K163_4 h0 (yes ?_ (c99 h0 c (K163_31 hQ)))
    rw [c.n7]; exact Int32.le_refl _
  | j + 1, i, hi => by
    have hb := c.wf.c.2
    have ih := k163 (d := d) (cu := cu) (su := su) h0 c hQ j (i + 1) (by omega)
    rw [orN] at ih
    refine K163_4 h0 (no ?_ (c105 h0 c (by omega) (K163_18 ?_)))
    · rw [c.n7, nI_leI (by omega) (by omega)]; omega
    rw [nI_add]
    exact ih
theorem c163 {d : Nat} {Q : XQ} {S : XS} {I : XI} {J : XJ} {r : XR} {a : Nat} {B : Nat → Int32} {W : Nat → Int64} (h0 : LY0 S r a) (c : CR I J a B W) (hQ : Q (some (.int (orN (shown B) (bn B 3) &&& rset B))) S I J r) : xcall (d + 4) 163 [.ref a] S I J r Q :=
  E163 (k163 h0 c hQ (bn B 3) 0 (by omega))
theorem k186 {d : Nat} {Q : XQ} {S : XS} {I : XI} {J : XJ} {r : XR} {cu su : Nat} {a : Nat} {B : Nat → Int32} {W : Nat → Int64} (h0 : LY0 S r a) (c : CR I J a B W) (hQ : Q (some (.int (nI (tog B (bn B 3))))) S I J r) : ∀ j i, i + j = bn B 3 → xrun z0 (xcall d) Q 186 4 [.ref a, .int (nI (tog B i)), .int (nI i)] [] S I J r cu su
  | 0, i, hi => by
    have hb := c.wf.c.2
    have e : i = bn B 3 := by omega
    subst e
    refine K186_4 h0 (yes ?_ hQ)
    rw [c.n7]; exact Int32.le_refl _
  | j + 1, i, hi => by
    have hb := c.wf.c.2
    have ih := k186 (d := d) (cu := cu) (su := su) h0 c hQ j (i + 1) (by omega)
    rw [tog] at ih
    refine K186_4 h0 (no ?_ ⟨vp_in_nI (by omega) (by decide), ?_⟩)
    · rw [c.n7, nI_leI (by omega) (by omega)]; omega
    rw [nI_clamp (by omega), c.tn (by omega), nI_add, nI_add]
    exact ih
theorem c186 {d : Nat} {Q : XQ} {S : XS} {I : XI} {J : XJ} {r : XR} {a : Nat} {B : Nat → Int32} {W : Nat → Int64} (h0 : LY0 S r a) (c : CR I J a B W) (hQ : Q (some (.int (nI (tog B (bn B 3))))) S I J r) : xcall (d + 1) 186 [.ref a] S I J r Q :=
  E186 (k186 h0 c hQ (bn B 3) 0 (by omega))
