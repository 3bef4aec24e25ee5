/-! the least of a set; the way -/
theorem b_neg (x : Int32) {i : Nat} (hi : i < 32) : bt (-x) i = (bt x i ^^ decide (∃ j, j < i ∧ bt x j = true)) := by
  unfold bt
  rw [Int32.toBitVec_neg, BitVec.getLsbD_neg, decide_eq_true hi, Bool.true_and]
theorem low_bi {x : Int32} {k : Nat} (hk : k < 32) (h1 : bt x k = true) (h2 : ∀ j, j < k → bt x j = false) : x &&& (-x) = bi k := by
  apply b_ext
  intro i hi
  rw [b_and, b_neg x hi, bt_bit hk hi]
  rcases Nat.lt_trichotomy i k with q | q | q
  · rw [h2 i q, Bool.false_and, decide_eq_false (by omega)]
  · subst q
    rw [h1, decide_eq_false (by rintro ⟨j, q1, q2⟩; rw [h2 j q1] at q2; cases q2), decide_eq_true rfl]; rfl
  · rw [decide_eq_true (p := ∃ j, j < i ∧ bt x j = true) ⟨k, q, h1⟩, decide_eq_false (p := i = k) (by omega)]
    cases bt x i <;> rfl
theorem nI_m1 {n : Nat} (h : n < 2147483648) : ¬ nI n = (-1 : Int32) := fun q => by
  have q2 := congrArg Int32.toInt q
  rw [nI_toInt h] at q2
  have q3 : (-1 : Int32).toInt = -1 := rfl
  omega
theorem low_ct : ∀ k, k < 32 → ctN (bi k - nI 1) 32 = k := by decide +kernel
theorem c130 {d : Nat} {Q : XQ} {S : XS} {I : XI} {J : XJ} {r : XR} {x : Int32} {k : Nat} (hk : k < 32) (h1 : bt x k = true) (h2 : ∀ j, j < k → bt x j = false) (hQ : Q (some (.int (nI k))) S I J r) : xcall (d + 2) 130 [.int x] S I J r Q := by
  refine E130 (c78 (K130_9 ?_))
  rw [low_bi hk h1 h2, low_ct k hk]
  exact hQ
def WL (B : Nat → Int32) (o : Int32) (f t : Nat) : Nat := lst (fun m => bt (RG (bn B 0) (ce B) o t m) f) 30
def WY (B : Nat → Int32) (o : Int32) (f t i : Nat) : Nat := wy (bn B 0) (ce B) o t f (WL B o f t) i
theorem WL_is {B : Nat → Int32} {o : Int32} {f t m : Nat} (hN : ce B ≤ 32) (hf : f < 32) (hm : m < 30) (h : bt (RG (bn B 0) (ce B) o t m) f = true) : WL B o f t = m :=
  lst_is hm h (fun j hj => by
    rw [← Bool.not_eq_true]
    intro q
    have := RG_dis hN hf h q
    omega)
theorem WL_no {B : Nat → Int32} {o : Int32} {f t : Nat} (h : ∀ m, bt (RG (bn B 0) (ce B) o t m) f = false) : WL B o f t = 30 := by
  have h1 := lst_le (fun m => bt (RG (bn B 0) (ce B) o t m) f) 30
  rcases Nat.lt_or_ge (lst (fun m => bt (RG (bn B 0) (ce B) o t m) f) 30) 30 with q | q
  · have := lst_yes q
    rw [h] at this; cases this
  · unfold WL; omega
theorem WL_rg {B : Nat → Int32} {o : Int32} {f t : Nat} (h : WL B o f t < 30) : bt (RG (bn B 0) (ce B) o t (WL B o f t)) f = true := lst_yes h
theorem WY_ok {B : Nat → Int32} {o : Int32} {f t : Nat} (hB : WF B) (hf : f < ce B) (h : WL B o f t < 30) {i : Nat} (hi : i ≤ WL B o f t) : WY B o f t i < ce B ∧ bt (RG (bn B 0) (ce B) o t (WL B o f t - i)) (WY B o f t i) = true :=
  wy_ok (by have := ce_le hB; omega) hf (WL_rg h) i hi
theorem ope_in {B : Nat → Int32} (h : WF B) {x : Int32} : ∀ i, i < 32 → bt (ope B x) i = true → i < ce B := by
  intro i hi hb
  unfold ope at hb
  rw [b_and, Bool.and_eq_true] at hb
  have h1 := hb.1
  unfold cha at h1
  rw [bt_pick (fun k => inferInstance)] at h1
  obtain ⟨k, h2, _, h3⟩ := h1
  rw [bt_pat h h2 hi] at h3
  exact inP_lt h h2 h3
theorem m1_s {m i : Nat} (h : i + 1 < m) : nI (m - 1 - i) + (-1 : Int32) = nI (m - 1 - (i + 1)) := by
  rw [show m - 1 - i = (m - 1 - (i + 1)) + 1 by omega, pk_m1]
theorem k129 {d : Nat} {Q : XQ} {S : XS} {I : XI} {J : XJ} {r : XR} {cu su p f t m : Nat} {o : Int32} {B : Nat → Int32} (h0 : LY4 S r p) (hB : WF B) (ho : ∀ i, i < 32 → bt o i = true → i < ce B) (hf : f < ce B) (hm : m < 30) (hr : bt (RG (bn B 0) (ce B) o t m) f = true)
    (hQ : ∀ I', fr3 p I I' → I' p 1 = nI (m + 1) → (∀ i, i ≤ m → I' (p + 1) i = nI (wy (bn B 0) (ce B) o t f m i)) → Q none S I' J r) : ∀ j i I1 x3 w1 w2, i + j = m → ((i < m ∧ x3 = nI (m - 1 - i)) ∨ (i = m ∧ x3 = -1)) → fr3 p I I1 → PR I1 p (bn B 0) (bn B 1) o t m → I1 p 1 = nI (i + 1) → (∀ q, q ≤ i → I1 (p + 1) q = nI (wy (bn B 0) (ce B) o t f m q)) → xrun z0 (xcall (d + 2)) Q 129 16 [.ref p, w1, w2, .int x3] [] S I1 J r cu su
  | 0, i, I1, x3, w1, w2, hi, hx, fr, e, e1, e2 => by
    have e3 : i = m := by omega
    subst e3
    rcases hx with hx | hx
    · omega
    rw [hx.2]
    exact K129_16 h0 (yes (by decide) (hQ _ fr e1 e2))
  | j + 1, i, I1, x3, w1, w2, hi, hx, fr, e, e1, e2 => by
    have hN := ce_le hB
    have hW := hB.w
    have hH := hB.h
    have hwy := wy_ok (t := t) (o := o) (w := bn B 0) (N := ce B) (by omega) hf hr i (by omega)
    have hx : x3 = nI (m - 1 - i) := by
      rcases hx with hx | hx
      · exact hx.2
      · omega
    have e4 : m - i = (m - 1 - i) + 1 := by omega
    rw [e4] at hwy
    have hn := nxc_ok (t := t) (o := o) (w := bn B 0) (N := ce B) (by omega) (by omega) hwy.2
    have es : nxc (bn B 0) (ce B) o t (m - 1 - i) (wy (bn B 0) (ce B) o t f m i) = wy (bn B 0) (ce B) o t f m (i + 1) := rfl
    subst hx
    refine K129_16 h0 (no (nI_pos (by omega)) ?_)
    rw [e1]
    refine no (by rw [nI_leI (by omega) (by omega)]; omega) ?_
    rw [pk_sub (by omega), show i + 1 - 1 = i by omega]
    refine ⟨vp_in_nI (by omega) (by decide), ?_⟩
    rw [nI_clamp (by omega), e2 i (Nat.le_refl _)]
    refine c128 h0 e.1 e.2.1 e.2.2.1 (K129_57 h0 ⟨vp_in_nI (by omega) (by decide), ?_⟩)
    rw [nI_clamp (by omega), e.2.2.2 _ (by omega)]
    have hxs : ∀ j, j < 32 → bt (bi (wy (bn B 0) (ce B) o t f m i)) j = true → j < bn B 0 * bn B 1 := fun j hj q => by
      rw [bt_bi (by omega) hj] at q; rw [q]; exact hwy.1
    have hls : ∀ j, j < 32 → bt (RG (bn B 0) (ce B) o t (m - 1 - i)) j = true → j < bn B 0 * bn B 1 := fun j hj q => ho j hj (RG_o (by omega) hj q)
    have hbes : besC (bn B 0) (fcol (bn B 0) (bn B 1)) (lcol (bn B 0) (bn B 1)) (nI 1 <<< (nI (wy (bn B 0) (ce B) o t f m i) &&& 31)) &&& RG (bn B 0) (bn B 0 * bn B 1) o t (m - 1 - i) = bset (bn B 0) (bn B 0 * bn B 1) (bi (wy (bn B 0) (ce B) o t f m i)) &&& RG (bn B 0) (ce B) o t (m - 1 - i) := besC_left ⟨hW.2.1, hW.2.2⟩ hH.2.2 hxs hls
    rw [hbes]
    have hbit : ∀ j, j < 32 → (bt (bset (bn B 0) (bn B 0 * bn B 1) (bi (wy (bn B 0) (ce B) o t f m i)) &&& RG (bn B 0) (ce B) o t (m - 1 - i)) j = true ↔ j < ce B ∧ (bt (RG (bn B 0) (ce B) o t (m - 1 - i)) j && bsd (bn B 0) j (wy (bn B 0) (ce B) o t f m i)) = true) := fun j hj => by
      have hN2 : bn B 0 * bn B 1 ≤ 32 := by unfold ce at hN; omega
      rw [b_and, Bool.and_eq_true, bt_bset hN2 hj, hasB_iff, Bool.and_eq_true]
      constructor
      · rintro ⟨⟨q1, b, q2, q3, q4⟩, q5⟩
        rw [bt_bi (by omega) (by omega)] at q3
        subst q3
        exact ⟨q1, q5, q4⟩
      · rintro ⟨q1, q5, q4⟩
        exact ⟨⟨q1, _, hwy.1, by rw [bt_bi (by omega) (by omega)], q4⟩, q5⟩
    refine c130 (k := wy (bn B 0) (ce B) o t f m (i + 1)) (by rw [← es]; omega) (by rw [hbit _ (by rw [← es]; omega), ← es]; exact ⟨hn.1, by rw [hn.2.1, hn.2.2]; rfl⟩) (fun j hj => ?_) (K129_67 h0 ⟨vp_in_nI (by omega) (by decide), ?_⟩)
    · rw [← es] at hj
      have h5 := lst_no (p := fun a => bt (RG (bn B 0) (ce B) o t (m - 1 - i)) a && bsd (bn B 0) a (wy (bn B 0) (ce B) o t f m i)) (n := ce B) hj
      rw [← Bool.not_eq_true]
      intro q
      rw [hbit j (by omega)] at q
      rw [h5] at q; cases q.2
    · rw [nI_clamp (by omega), up_o (by omega), e1, nI_add]
      refine k129 h0 hB ho hf hm hr hQ j (i + 1) _ _ _ _ (by omega) ?_ ((fr.u (by omega) (by omega)).u (by omega) (by omega)) ⟨?_, ?_, ?_, fun q hq => ?_⟩ ?_ (fun q hq => ?_)
      · rcases Nat.lt_or_ge (i + 1) m with q | q
        · exact Or.inl ⟨q, m1_s q⟩
        · refine Or.inr ⟨by omega, ?_⟩
          rw [show m - 1 - i = 0 by omega]; rfl
      · rw [up_i (by decide), up_o (by omega)]; exact e.1
      · rw [up_i (by decide), up_o (by omega)]; exact e.2.1
      · rw [up_i (by decide), up_o (by omega)]; exact e.2.2.1
      · rw [up_o (by omega), up_o (by omega)]; exact e.2.2.2 q hq
      · rw [up_e]
      · rw [up_o (by omega)]
        rcases Nat.lt_or_ge i q with q1 | q1
        · have : q = i + 1 := by omega
          subst this; rw [up_e]
        · rw [up_i (by omega)]; exact e2 q q1
theorem c125 {d : Nat} {Q : XQ} {S : XS} {I : XI} {J : XJ} {r : XR} {a p f t : Nat} {J' : XJ} {o : Int32} {B : Nat → Int32} {W : Nat → Int64} (h0 : LY4 S r p) (h1 : LY0 S r a) (hp : p + 2 < a) (c : CR I J a B W) (ho : ∀ i, i < 32 → bt o i = true → i < ce B) (hf : f < ce B) (ht : t < ce B)
    (hQ : ∀ I', fr3 p I I' → (WL B o f t < 30 → I' p 1 = nI (WL B o f t + 1) ∧ ∀ i, i ≤ WL B o f t → I' (p + 1) i = nI (WY B o f t i)) → Q (some (.int (if WL B o f t < 30 then 1 else 0))) S I' J r) : xcall (d + 4) 125 [.ref p, .ref a, .int o, .int (nI f), .int (nI t)] S I J r Q := by
  have hN := ce_le c.wf
  have hW := c.wf.w
  have hH := c.wf.h
  have g1 : fr3 p I (up2 I p 1 (nI 0)) := (fr3.r p I).u (by omega) (by omega)
  have c1 := c.f3 g1 hp
  refine E125 h0 h1 (c76y h1 c1 hf (K125_10 h1 (e1 (c76y h1 c1 ht (K125_19 h0 (f1 ?_))))))
  refine c126 h0 h1 hp c1 rfl rfl (fun I2 g2 e3 e4 e5 _ _ => K125_29 h0 (c127 h0 ⟨hW.2.1, hW.2.2⟩ hH.2.2 ho hf e3 e4 e5 (fun m I3 hm hr g3 e => ?_) (fun I3 hno g3 => ?_)))
  · have hwl := WL_is (by omega) (by omega) hm hr
    refine K125_37 h0 (yes (nI_m1 (by omega)) ?_)
    refine E129 h0 (k129 h0 c.wf ho hf hm hr (fun I' g' q1 q2 => K125_54 ?_) m 0 _ _ _ _ (by omega) ?_ (((fr3.r p I3).u (by omega) (by omega)).u (by omega) (by omega)) ⟨?_, ?_, ?_, fun q hq => ?_⟩ ?_ (fun q hq => ?_))
    · have := hQ I' (((g1.t g2).t g3).t g') (fun _ => by
        refine ⟨by rw [hwl]; exact q1, fun i hi => ?_⟩
        rw [hwl] at hi
        unfold WY
        rw [hwl]; exact q2 i hi)
      rw [if_pos (by omega)] at this
      exact this
    · rcases Nat.eq_zero_or_pos m with q | q
      · subst q; exact Or.inr ⟨rfl, by decide⟩
      · exact Or.inl ⟨q, by rw [pk_sub (by omega)]; rfl⟩
    · rw [up_i (by decide), up_o (by omega)]; exact e.1
    · rw [up_i (by decide), up_o (by omega)]; exact e.2.1
    · rw [up_i (by decide), up_o (by omega)]; exact e.2.2.1
    · rw [up_o (by omega), up_o (by omega)]; exact e.2.2.2 q hq
    · rw [up_e]
    · have : q = 0 := by omega
      subst this
      rw [up_o (by omega), up_e]; rfl
  · have hwl := WL_no (B := B) (o := o) (f := f) (t := t) hno
    refine K125_37 h0 (nno rfl ?_)
    have := hQ I3 ((g1.t g2).t g3) (fun q => by omega)
    rw [if_neg (by omega)] at this
    exact this
/-- the first cell of the way in which a ship strikes -/
def STR (B : Nat → Int32) (dr : Nat) (g : Nat → Nat) (m : Nat) : Int32 := if lst (fun i => bt (shal B dr) (g i)) (m + 1) < m + 1 then nI (g (lst (fun i => bt (shal B dr) (g i)) (m + 1))) else -1
theorem k132 {d : Nat} {Q : XQ} {S : XS} {I : XI} {J : XJ} {r : XR} {cu su p m dr : Nat} {B : Nat → Int32} {g : Nat → Nat} {w1 w2 : Value} (h0 : LY4 S r p) (hm : m < 30) (hg : ∀ i, i ≤ m → g i < 32) (e1 : I p 1 = nI (m + 1)) (e2 : ∀ i, i ≤ m → I (p + 1) i = nI (g i)) (hQ : Q (some (.int (STR B dr g m))) S I J r) : ∀ j i, i + j = m + 1 → (∀ q, q < i → bt (shal B dr) (g q) = false) → xrun z0 (xcall d) Q 132 9 [.ref p, w1, w2, .int (shal B dr), .int (nI i)] [] S I J r cu su
  | 0, i, hi, hn => by
    have e : i = m + 1 := by omega
    subst e
    refine K132_9 h0 (yes (by rw [e1]; exact Int32.le_refl _) ?_)
    unfold STR at hQ
    rw [if_neg (fun q => by have h2 := lst_yes q; rw [hn _ q] at h2; cases h2)] at hQ
    exact hQ
  | j + 1, i, hi, hn => by
    refine K132_9 h0 (no (by rw [e1, nI_leI (by omega) (by omega)]; omega) (no (by rw [nI_leI (by omega) (by omega)]; omega) ⟨vp_in_nI (by omega) (by decide), ?_⟩))
    rw [nI_clamp (by omega), e2 i (by omega), bt_down (hg i (by omega)), nI_add]
    cases hb : bt (shal B dr) (g i)
    · refine yes rfl (k132 h0 hm hg e1 e2 hQ j (i + 1) (by omega) (fun q hq => ?_))
      rcases Nat.lt_or_ge q i with q1 | q1
      · exact hn q q1
      · have : q = i := by omega
        subst this; exact hb
    · refine no (by decide) ⟨vp_in_nI (by omega) (by decide), ?_⟩
      have hl := lst_is (p := fun i => bt (shal B dr) (g i)) (n := m + 1) (by omega) hb hn
      unfold STR at hQ
      rw [hl, if_pos (by omega)] at hQ
      exact hQ
theorem c132 {d : Nat} {Q : XQ} {S : XS} {I : XI} {J : XJ} {r : XR} {a p m dr : Nat} {B : Nat → Int32} {W : Nat → Int64} {g : Nat → Nat} (h0 : LY4 S r p) (h1 : LY0 S r a) (c : CR I J a B W) (hd : dr ≤ 10) (hm : m < 30) (hg : ∀ i, i ≤ m → g i < 32) (e1 : I p 1 = nI (m + 1)) (e2 : ∀ i, i ≤ m → I (p + 1) i = nI (g i)) (hQ : Q (some (.int (STR B dr g m))) S I J r) : xcall (d + 3) 132 [.ref p, .ref a, .int (nI dr)] S I J r Q :=
  E132 h1 (c106 h1 c hd (K132_5 (k132 h0 hm hg e1 e2 hQ (m + 1) 0 (by omega) (fun q hq => by omega))))
