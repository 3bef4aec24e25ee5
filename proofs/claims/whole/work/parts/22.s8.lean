/-! the reference's ways -/
theorem c298 {d : Nat} {Q : XQ} {S : XS} {I : XI} {J : XJ} {r : XR} {a b : Nat} (ha : a < 100000) (hb : b < 100000) (hQ : Q (some (.int (nI (a - b + (b - a))))) S I J r) : xcall (d + 1) 298 [.int (nI a - nI b)] S I J r Q := by
  refine E298 ?_
  rcases Nat.lt_or_ge a b with h | h
  · refine no ?_ ?_
    · rw [i_le, i_z, i_subI (by omega) (by omega)]; omega
    · rw [Int32.neg_sub, pk_sub (by omega)]
      rw [show a - b + (b - a) = b - a by omega] at hQ
      exact hQ
  · rw [pk_sub h]
    rw [show a - b + (b - a) = a - b by omega] at hQ
    exact yes (nI_pos' (by omega)) hQ
theorem bsd_abs : ∀ w, w < 7 → ∀ a, a < 30 → ∀ b, b < 30 → (w = 0 ∨ (bsd w a b = decide (a / w - b / w + (b / w - a / w) + (a % w - b % w + (b % w - a % w)) = 1))) := by decide +kernel
theorem r297 {d : Nat} {Q : XQ} {S : XS} {I : XI} {J : XJ} {r : XR} {a b : Nat} (hL : LAY S r) (w : WF (I 70)) (ha : a < 30) (hb : b < 30) (hT : bsd (bn (I 70) 0) a b = true → Q (some (.int 1)) S I J r) (hF : bsd (bn (I 70) 0) a b = false → Q (some (.int 0)) S I J r) : xcall (d + 2) 297 [.ref 65, .int (nI a), .int (nI b)] S I J r Q := by
  have hW := w.w
  have m1 : a / bn (I 70) 0 ≤ a := Nat.div_le_self _ _
  have m2 : b / bn (I 70) 0 ≤ b := Nat.div_le_self _ _
  have m3 : a % bn (I 70) 0 < 6 := Nat.lt_of_lt_of_le (Nat.mod_lt _ (by omega)) hW.2.2
  have m4 : b % bn (I 70) 0 < 6 := Nat.lt_of_lt_of_le (Nat.mod_lt _ (by omega)) hW.2.2
  have n0 : ¬ nI (bn (I 70) 0) = 0 := nI_ne0 (by omega) (by omega)
  have hs := bsd_abs (bn (I 70) 0) (by omega) a ha b hb
  rcases hs with hs | hs
  · omega
  refine E297 hL ?_
  rw [hW.1, pk_div (by omega) (by omega) (by omega), pk_div (by omega) (by omega) (by omega)]
  refine ⟨n0, n0, c298 (by omega) (by omega) (K297_20 hL ?_)⟩
  rw [hW.1, pk_rem (by omega) (by omega) (by omega), pk_rem (by omega) (by omega) (by omega)]
  refine ⟨n0, n0, c298 (by omega) (by omega) (K297_40 ?_)⟩
  rw [nI_add]
  generalize a / bn (I 70) 0 = A1 at *
  generalize b / bn (I 70) 0 = A2 at *
  generalize a % bn (I 70) 0 = A3 at *
  generalize b % bn (I 70) 0 = A4 at *
  by_cases q : A1 - A2 + (A2 - A1) + (A3 - A4 + (A4 - A3)) = 1
  · rw [decide_eq_true q] at hs
    exact nno (by rw [q]) (hT hs)
  · rw [decide_eq_false q] at hs
    refine yes (fun h => q ?_) (hF hs)
    exact (nI_eq (by omega) (by decide)).mp h
theorem r300 {d : Nat} {Q : XQ} {S : XS} {I : XI} {J : XJ} {r : XR} {x dr : Nat} (hL : LAY S r) (w : WF (I 70)) (hx : x < 30) (hd : dr ≤ 10) (hT : bt (shal (I 70) dr) x = true → Q (some (.int 1)) S I J r) (hF : bt (shal (I 70) dr) x = false → Q (some (.int 0)) S I J r) : xcall (d + 2) 300 [.ref 65, .int (nI x), .int (nI dr)] S I J r Q := by
  have hb := w.r.2
  refine E300 hL (r229 (b := 0) (x := x) hL (by decide) (hB0 I) w (by omega) (fun q hq hq2 => K300_6 hL (no (nI_pos (by omega)) ?_)) (fun hno => K300_6 hL (yes (by decide) (hF ?_))))
  · have hp := w.dp hq
    rw [nI_add]
    refine ⟨vp_in_nI (by omega) (by decide), ?_⟩
    rw [nI_clamp (by omega), hp.1]
    by_cases h5 : dr ≤ bn (I 70) (22 + q)
    · refine yes ((nI_leI (by omega) (by omega)).mpr h5) (hF ?_)
      rw [← Bool.not_eq_true, bt_shal w (by omega)]
      rintro ⟨s, h1, h2, h3⟩
      have := w.nd h1 hq (by omega)
      subst this; omega
    · refine no (fun h => h5 ((nI_leI (by omega) (by omega)).mp h)) (hT ?_)
      rw [bt_shal w (by omega)]
      exact ⟨q, hq, by omega, hq2⟩
  · rw [← Bool.not_eq_true, bt_shal w (by omega)]
    rintro ⟨s, h1, h2, h3⟩
    exact hno s h1 h3
def f73 (I I' : XI) : Prop := ∀ q, q ≠ 73 → I' q = I q
theorem f73.u {I I' : XI} {i : Nat} {v : Int32} (h : f73 I I') : f73 I (up2 I' 73 i v) := fun q hq => by rw [up_o hq]; exact h q hq
def FR (I : XI) (F : Nat → Nat) : Prop := ∀ a, a < 30 → I 73 a = nI (F a)
/-- fars after ring d was laid -/
abbrev FVB (B : Nat → Int32) (o : Int32) (t d : Nat) : Nat → Nat := FV (bn B 0) (ce B) o t d
theorem FVB_le {B : Nat → Int32} {o : Int32} {t a : Nat} (hB : WF B) (ha : a < 32) (d : Nat) : 1 ≤ FVB B o t d a ∧ (FVB B o t d a ≤ d + 1 ∨ FVB B o t d a = 99) := FV_le (by have := ce_le hB; omega) ha d
theorem f73.b {I I' : XI} (h : f73 I I') : I' 70 = I 70 := h 70 (by decide)
theorem FR.w {I : XI} {F G : Nat → Nat} {i v : Nat} (h : FR I F) (hi : i < 30) (h1 : G i = v) (h2 : ∀ a, a < 30 → a ≠ i → G a = F a) : FR (up2 I 73 i (nI v)) G := fun a ha => by
  by_cases q : a = i
  · subst q; rw [up_e, h1]
  · rw [up_i q, h2 a ha q]; exact h a ha
theorem FR.c {I : XI} {F G : Nat → Nat} (h : FR I F) (h2 : ∀ a, a < 30 → G a = F a) : FR I G := fun a ha => by rw [h2 a ha]; exact h a ha
/-- while the cell a is looked at from b -/
def FM (B : Nat → Int32) (o : Int32) (t d a b q : Nat) : Nat := if q < a then FVB B o t (d + 1) q else if q = a ∧ FVB B o t d a = 99 ∧ bt o a = true ∧ (∃ b', b' < b ∧ FVB B o t d b' = d + 1 ∧ bsd (bn B 0) a b' = true) then d + 2 else FVB B o t d q
theorem FM_0 {B : Nat → Int32} {o : Int32} {t d a q : Nat} : FM B o t d a 0 q = if q < a then FVB B o t (d + 1) q else FVB B o t d q := by
  unfold FM
  split
  · rfl
  · rw [if_neg (by rintro ⟨_, _, _, b, h, _⟩; omega)]
theorem FV_step {B : Nat → Int32} {o : Int32} {t d a : Nat} (hB : WF B) (hd : d < 80) (ha : a < ce B) : FVB B o t (d + 1) a = if FVB B o t d a = 99 ∧ bt o a = true ∧ (∃ b', b' < ce B ∧ FVB B o t d b' = d + 1 ∧ bsd (bn B 0) a b' = true) then d + 2 else FVB B o t d a := by
  have hN := ce_le hB
  show (if bt (RG (bn B 0) (ce B) o t (d + 1)) a = true then d + 2 else FVB B o t d a) = _
  have e : (bt (RG (bn B 0) (ce B) o t (d + 1)) a = true) ↔ FVB B o t d a = 99 ∧ bt o a = true ∧ (∃ b', b' < ce B ∧ FVB B o t d b' = d + 1 ∧ bsd (bn B 0) a b' = true) := by
    rw [bt_RGs (by omega) (by omega), FV_99 (by omega) (by omega) (by omega)]
    constructor
    · rintro ⟨⟨_, h1, b, h2, h3, h4⟩, h5⟩
      exact ⟨h5, h1, b, h2, (FV_eq (by omega) (by omega) (by omega) (Nat.le_refl _)).mpr h3, h4⟩
    · rintro ⟨h5, h1, b, h2, h3, h4⟩
      exact ⟨⟨ha, h1, b, h2, (FV_eq (by omega) (by omega) (by omega) (Nat.le_refl _)).mp h3, h4⟩, h5⟩
  by_cases q : bt (RG (bn B 0) (ce B) o t (d + 1)) a = true
  · rw [if_pos q, if_pos (e.mp q)]
  · rw [if_neg q, if_neg (fun h => q (e.mpr h))]
theorem FM_N {B : Nat → Int32} {o : Int32} {t d a q : Nat} (hB : WF B) (hd : d < 80) (ha : a < ce B) : FM B o t d (a + 1) 0 q = FM B o t d a (ce B) q := by
  rw [FM_0]
  unfold FM
  rcases Nat.lt_trichotomy q a with h | h | h
  · rw [if_pos (by omega), if_pos h]
  · subst h
    rw [if_pos (by omega), if_neg (Nat.lt_irrefl q), FV_step hB hd ha]
    by_cases e : FVB B o t d q = 99 ∧ bt o q = true ∧ (∃ b', b' < ce B ∧ FVB B o t d b' = d + 1 ∧ bsd (bn B 0) q b' = true)
    · rw [if_pos e, if_pos ⟨rfl, e⟩]
    · rw [if_neg e, if_neg (fun h => e h.2)]
  · rw [if_neg (by omega), if_neg (by omega), if_neg (by omega)]
theorem FV_hi {B : Nat → Int32} {o : Int32} {t d a : Nat} (hB : WF B) (ho : ∀ i, i < 32 → bt o i = true → i < ce B) (ha : ce B ≤ a) (h32 : a < 32) : FVB B o t d a = 99 := by
  have hN := ce_le hB
  refine FV_out (fun e _ => ?_)
  rw [← Bool.not_eq_true]
  intro q
  have := ho a h32 (RG_o (by omega) h32 q)
  omega
theorem FM_Z {B : Nat → Int32} {o : Int32} {t d q : Nat} (hB : WF B) (ho : ∀ i, i < 32 → bt o i = true → i < ce B) (hq : q < 30) : FVB B o t (d + 1) q = FM B o t d (ce B) 0 q := by
  rw [FM_0]
  split
  · rfl
  · rw [FV_hi hB ho (by omega) (by omega), FV_hi hB ho (by omega) (by omega)]
/-- what the reading of a cell b tells of the ring d -/
theorem FM_b {B : Nat → Int32} {o : Int32} {t d a b : Nat} (hB : WF B) (hd : d < 80) (ha : a < ce B) (hb : b < ce B) (k : Nat) : FM B o t d a k b = d + 1 ↔ FVB B o t d b = d + 1 := by
  have hN := ce_le hB
  unfold FM
  split
  · rw [FV_step hB hd hb]
    split
    · rename_i h; omega
    · rfl
  · split
    · rename_i h2
      constructor
      · intro h; omega
      · intro h; obtain ⟨h3, h4, _⟩ := h2; subst h3; omega
    · rfl
theorem FM_a {B : Nat → Int32} {o : Int32} {t d a b : Nat} : FM B o t d a b a = if FVB B o t d a = 99 ∧ bt o a = true ∧ (∃ b', b' < b ∧ FVB B o t d b' = d + 1 ∧ bsd (bn B 0) a b' = true) then d + 2 else FVB B o t d a := by
  unfold FM
  rw [if_neg (Nat.lt_irrefl a)]
  by_cases e : FVB B o t d a = 99 ∧ bt o a = true ∧ (∃ b', b' < b ∧ FVB B o t d b' = d + 1 ∧ bsd (bn B 0) a b' = true)
  · rw [if_pos e, if_pos ⟨rfl, e⟩]
  · rw [if_neg e, if_neg (fun h => e h.2)]
theorem FM_s0 {B : Nat → Int32} {o : Int32} {t d a b q : Nat} (h : ¬ (FVB B o t d b = d + 1 ∧ FVB B o t d a = 99 ∧ bt o a = true ∧ bsd (bn B 0) a b = true)) : FM B o t d a (b + 1) q = FM B o t d a b q := by
  unfold FM
  split
  · rfl
  · congr 1
    rw [eq_iff_iff]
    constructor
    · rintro ⟨h1, h2, h3, b', h4, h5, h6⟩
      refine ⟨h1, h2, h3, b', ?_, h5, h6⟩
      rcases Nat.lt_or_ge b' b with q1 | q1
      · exact q1
      · have : b' = b := by omega
        subst this
        exact absurd ⟨h5, h2, h3, h6⟩ h
    · rintro ⟨h1, h2, h3, b', h4, h5, h6⟩
      exact ⟨h1, h2, h3, b', by omega, h5, h6⟩
theorem FM_s1 {B : Nat → Int32} {o : Int32} {t d a b : Nat} (h : FVB B o t d b = d + 1 ∧ FVB B o t d a = 99 ∧ bt o a = true ∧ bsd (bn B 0) a b = true) : FM B o t d a (b + 1) a = d + 2 ∧ ∀ q, q ≠ a → FM B o t d a (b + 1) q = FM B o t d a b q := by
  constructor
  · rw [FM_a, if_pos ⟨h.2.1, h.2.2.1, b, by omega, h.1, h.2.2.2⟩]
  · intro q hq
    unfold FM
    split
    · rfl
    · rw [if_neg (fun h => hq h.1), if_neg (fun h => hq h.1)]
theorem FM_s2 {B : Nat → Int32} {o : Int32} {t d a b : Nat} (h : FM B o t d a b a ≠ 99) (q : Nat) : FM B o t d a (b + 1) q = FM B o t d a b q := by
  by_cases h2 : FVB B o t d b = d + 1 ∧ FVB B o t d a = 99 ∧ bt o a = true ∧ bsd (bn B 0) a b = true
  · by_cases hq : q = a
    · subst hq
      rw [FM_a] at h
      by_cases e : FVB B o t d q = 99 ∧ bt o q = true ∧ (∃ b', b' < b ∧ FVB B o t d b' = d + 1 ∧ bsd (bn B 0) q b' = true)
      · rw [FM_a, FM_a, if_pos e, if_pos ⟨e.1, e.2.1, by obtain ⟨b', h3, h4⟩ := e.2.2; exact ⟨b', by omega, h4⟩⟩]
      · rw [if_neg e] at h; exact absurd h2.2.1 h
    · exact (FM_s1 h2).2 q hq
  · exact FM_s0 h2
theorem FM_le {B : Nat → Int32} {o : Int32} {t d a b q : Nat} (hB : WF B) (hd : d < 80) (hq : q < 30) : FM B o t d a b q < 100 := by
  have hN := ce_le hB
  have h1 := FVB_le (t := t) (o := o) hB (a := q) (by omega) d
  have h2 := FVB_le (t := t) (o := o) hB (a := q) (by omega) (d + 1)
  unfold FM
  split
  · omega
  · split <;> omega
theorem k294b {d : Nat} {Q : XQ} {S : XS} {I : XI} {J : XJ} {r : XR} {cu su t d' a f : Nat} {o : Int32} {w1 w3 : Value} {B : Nat → Int32} (hL : LAY S r) (hB : WF B) (hd : d' < 80) (ha : a < ce B)
    (hK : ∀ I1, f73 I I1 → FR I1 (FM B o t d' a (ce B)) → ∀ w7, xrun z0 (xcall (d + 2)) Q 294 74 [.ref 65, w1, .int (nI f), w3, .int o, .int (nI (d' + 1)), .int (nI (a + 1)), w7] [] S I1 J r cu su) (hI : I 70 = B) :
    ∀ j b I1, b + j = ce B → f73 I I1 → FR I1 (FM B o t d' a b) → xrun z0 (xcall (d + 2)) Q 294 86 [.ref 65, w1, .int (nI f), w3, .int o, .int (nI (d' + 1)), .int (nI a), .int (nI b)] [] S I1 J r cu su
  | 0, b, I1, hi, fr, e => by
    have e1 : b = ce B := by omega
    subst e1
    have w' : WF (I1 70) := by rw [fr.b, hI]; exact hB
    refine K294_86 hL (r259 hL w' (K294_92 hL (yes ?_ ?_)))
    · rw [fr.b, hI]; exact Int32.le_refl _
    · rw [nI_add]; exact hK I1 fr e _
  | j + 1, b, I1, hi, fr, e => by
    have hN := ce_le hB
    have w' : WF (I1 70) := by rw [fr.b, hI]; exact hB
    have nx : ∀ I2, f73 I I2 → FR I2 (FM B o t d' a (b + 1)) → xrun z0 (xcall (d + 2)) Q 294 86 [.ref 65, w1, .int (nI f), w3, .int o, .int (nI (d' + 1)), .int (nI a), .int (nI b + nI 1)] [] S I2 J r cu su := fun I2 g2 h2 => by
      rw [nI_add]; exact k294b hL hB hd ha hK hI j (b + 1) I2 (by omega) g2 h2
    have hb := FM_b (o := o) (t := t) hB hd ha (b := b) (by omega) b
    have l1 := FM_le (o := o) (t := t) (a := a) (b := b) hB hd (q := b) (by omega)
    have l2 := FM_le (o := o) (t := t) (a := a) (b := b) hB hd (q := a) (by omega)
    refine K294_86 hL (r259 hL w' (K294_92 hL (no ?_ ⟨vp_in_nI (by omega) (by decide), ?_⟩)))
    · rw [fr.b, hI, nI_leI (by omega) (by omega)]; omega
    rw [nI_clamp (by omega), e b (by omega), nI_clamp (by omega), e a (by omega), nI_eqI (by omega) (by omega), nI_eqI (by omega) (by decide)]
    by_cases h1 : FM B o t d' a b b = d' + 1
    · refine nno h1 ⟨vp_in_nI (by omega) (by decide), ?_⟩
      by_cases h2 : FM B o t d' a b a = 99
      · refine nno h2 ?_
        have h3 : FVB B o t d' a = 99 := by
          rw [FM_a] at h2
          split at h2
          · omega
          · exact h2
        have skip : ¬ (FVB B o t d' b = d' + 1 ∧ FVB B o t d' a = 99 ∧ bt o a = true ∧ bsd (bn B 0) a b = true) → FR I1 (FM B o t d' a (b + 1)) := fun q => e.c (fun q1 _ => FM_s0 q)
        refine c250 (by omega) (fun q => K294_126 hL (no (by decide) (r297 hL w' (by omega) (by omega) (fun q2 => K294_137 hL (no (by decide) ⟨vp_in_nI (by omega) (by decide), ?_⟩)) (fun q2 => K294_137 hL (yes rfl (nx I1 fr (skip ?_))))))) (fun q => K294_126 hL (yes rfl (nx I1 fr (skip ?_))))
        · rw [fr.b, hI] at q2
          have h4 := FM_s1 (B := B) (o := o) (t := t) (d := d') (a := a) (b := b) ⟨hb.mp h1, h3, q, q2⟩
          rw [nI_clamp (by omega), nI_add (d' + 1) 1]
          exact nx _ fr.u (e.w (by omega) h4.1 (fun q5 _ q6 => h4.2 q5 q6))
        · rw [fr.b, hI] at q2
          rintro ⟨_, _, _, h5⟩; rw [q2] at h5; cases h5
        · rintro ⟨_, _, h5, _⟩; rw [q] at h5; cases h5
      · exact yes h2 (nx I1 fr (e.c (fun q _ => FM_s2 h2 q)))
    · exact yes h1 (nx I1 fr (e.c (fun q _ => FM_s0 (fun h => h1 (hb.mpr h.1)))))
theorem k294a {d : Nat} {Q : XQ} {S : XS} {I : XI} {J : XJ} {r : XR} {cu su t d' f : Nat} {o : Int32} {w1 w3 : Value} {B : Nat → Int32} (hL : LAY S r) (hB : WF B) (ho : ∀ i, i < 32 → bt o i = true → i < ce B) (hd : d' < 80)
    (hK : ∀ I1, f73 I I1 → FR I1 (FVB B o t (d' + 1)) → ∀ w6 w7, xrun z0 (xcall (d + 2)) Q 294 62 [.ref 65, w1, .int (nI f), w3, .int o, .int (nI (d' + 2)), w6, w7] [] S I1 J r cu su) (hI : I 70 = B) :
    ∀ j a I1 w7, a + j = ce B → f73 I I1 → FR I1 (FM B o t d' a 0) → xrun z0 (xcall (d + 2)) Q 294 74 [.ref 65, w1, .int (nI f), w3, .int o, .int (nI (d' + 1)), .int (nI a), w7] [] S I1 J r cu su
  | 0, a, I1, w7, hi, fr, e => by
    have e1 : a = ce B := by omega
    subst e1
    have w' : WF (I1 70) := by rw [fr.b, hI]; exact hB
    refine K294_74 hL (r259 hL w' (K294_80 (yes ?_ ?_)))
    · rw [fr.b, hI]; exact Int32.le_refl _
    · rw [nI_add]; exact hK I1 fr (e.c (fun q hq => FM_Z hB ho hq)) _ _
  | j + 1, a, I1, w7, hi, fr, e => by
    have hN := ce_le hB
    have w' : WF (I1 70) := by rw [fr.b, hI]; exact hB
    refine K294_74 hL (r259 hL w' (K294_80 (no ?_ ?_)))
    · rw [fr.b, hI, nI_leI (by omega) (by omega)]; omega
    · refine k294b hL hB hd (by omega) (fun I2 g2 h2 w7 => ?_) hI (ce B) 0 I1 (by omega) fr e
      exact k294a hL hB ho hd hK hI j (a + 1) I2 w7 (by omega) g2 (h2.c (fun q _ => FM_N hB hd (by omega)))
theorem FM_00 {B : Nat → Int32} {o : Int32} {t d q : Nat} : FM B o t d 0 0 q = FVB B o t d q := by rw [FM_0, if_neg (Nat.not_lt_zero _)]
theorem k294n {d : Nat} {Q : XQ} {S : XS} {I : XI} {J : XJ} {r : XR} {cu su t f : Nat} {o : Int32} {w1 w3 : Value} {B : Nat → Int32} (hL : LAY S r) (hB : WF B) (ho : ∀ i, i < 32 → bt o i = true → i < ce B) (hf : f < ce B)
    (hQ : ∀ I1, f73 I I1 → FR I1 (FVB B o t (ce B - 1)) → Q (some (.int (if FVB B o t (ce B - 1) f = 99 then -1 else nI (FVB B o t (ce B - 1) f)))) S I1 J r) (hI : I 70 = B) :
    ∀ j d' I1 w6 w7, d' + 1 + j = ce B → f73 I I1 → FR I1 (FVB B o t d') → xrun z0 (xcall (d + 2)) Q 294 62 [.ref 65, w1, .int (nI f), w3, .int o, .int (nI (d' + 1)), w6, w7] [] S I1 J r cu su
  | 0, d', I1, w6, w7, hi, fr, e => by
    have hN := ce_le hB
    have w' : WF (I1 70) := by rw [fr.b, hI]; exact hB
    have h1 := FVB_le (t := t) (o := o) hB (a := f) (by omega) d'
    refine K294_62 hL (r259 hL w' (K294_68 hL (yes ?_ ⟨vp_in_nI (by omega) (by decide), ?_⟩)))
    · rw [fr.b, hI, nI_leI (by omega) (by omega)]; omega
    rw [nI_clamp (by omega), e f (by omega), nI_eqI (by omega) (by decide)]
    have hq := hQ I1 fr (by rw [show ce B - 1 = d' by omega]; exact e)
    rw [show ce B - 1 = d' by omega] at hq
    by_cases q : FVB B o t d' f = 99
    · rw [if_pos q] at hq; exact nno q hq
    · rw [if_neg q] at hq; exact yes q ⟨vp_in_nI (by omega) (by decide), hq⟩
  | j + 1, d', I1, w6, w7, hi, fr, e => by
    have hN := ce_le hB
    have w' : WF (I1 70) := by rw [fr.b, hI]; exact hB
    refine K294_62 hL (r259 hL w' (K294_68 hL (no ?_ ?_)))
    · rw [fr.b, hI, nI_leI (by omega) (by omega)]; omega
    refine k294a hL hB ho (by omega) (fun I2 g2 h2 w6 w7 => ?_) hI (ce B) 0 I1 w7 (by omega) fr (e.c (fun q _ => FM_00))
    exact k294n hL hB ho hf hQ hI j (d' + 1) I2 w6 w7 (by omega) g2 h2
theorem k294f {d : Nat} {Q : XQ} {S : XS} {I : XI} {J : XJ} {r : XR} {cu su : Nat} {w1 w6 w7 : Value} {x2 x3 o : Int32} (hL : LAY S r)
    (hK : ∀ I1, f73 I I1 → FR I1 (fun _ => 99) → xcall (d + 1) 250 [.int o, .int x2] S I1 J r (fun v S1 I1 J1 r1 => xrun z0 (xcall (d + 1)) Q 294 38 [.ref 65, w1, .int x2, .int x3, .int o, .int (nI 30), w6, w7] (v.toList ++ []) S1 I1 J1 r1 cu su)) :
    ∀ j i I1, i + j = 30 → f73 I I1 → (∀ a, a < i → I1 73 a = nI 99) → xrun z0 (xcall (d + 1)) Q 294 10 [.ref 65, w1, .int x2, .int x3, .int o, .int (nI i), w6, w7] [] S I1 J r cu su
  | 0, i, I1, hi, fr, e => by
    have e1 : i = 30 := by omega
    subst e1
    exact K294_10 hL (yes (Int32.le_refl _) (hK I1 fr e))
  | j + 1, i, I1, hi, fr, e => by
    refine K294_10 hL (no (by rw [nI_leI (by omega) (by omega)]; omega) ⟨vp_in_nI (by omega) (by decide), ?_⟩)
    rw [nI_clamp (by omega), nI_add]
    refine k294f hL hK j (i + 1) _ (by omega) fr.u (fun a ha => ?_)
    by_cases q : a = i
    · subst q; rw [up_e]
    · rw [up_i q]; exact e a (by omega)
/-- how the reference tells a way: how many cells, or none -/
def WN (B : Nat → Int32) (o : Int32) (f t : Nat) : Int32 := if WL B o f t < 30 then nI (WL B o f t + 1) else -1
theorem FV_WL {B : Nat → Int32} {o : Int32} {f t : Nat} (hB : WF B) (ho : ∀ i, i < 32 → bt o i = true → i < ce B) (hf : f < ce B) : (if FVB B o t (ce B - 1) f = 99 then (-1 : Int32) else nI (FVB B o t (ce B - 1) f)) = WN B o f t := by
  have hN := ce_le hB
  unfold WN FVB
  rcases FV_cases (t := t) (o := o) (w := bn B 0) (N := ce B) (by omega) (a := f) (by omega) (ce B - 1) with ⟨e, h1, h2, h3⟩ | ⟨h1, h2⟩
  · have h4 := WL_is (by omega) (by omega) (by omega) h2
    rw [h3, h4, if_neg (by omega), if_pos (by omega)]
  · have h4 := WL_no (B := B) (o := o) (f := f) (t := t) (fun m => by
      rcases Nat.lt_or_ge m (ce B) with q | q
      · exact h1 m (by omega)
      · exact RG_far (by omega) ho q (by omega))
    rw [h2, h4, if_pos rfl, if_neg (by omega)]
theorem WL_o {B : Nat → Int32} {o : Int32} {f t : Nat} (hB : WF B) (hf : f < ce B) (ht : t < ce B) (h : bt o f = false ∨ bt o t = false) : WL B o f t = 30 := by
  have hN := ce_le hB
  refine WL_no (fun m => ?_)
  rcases h with h | h
  · rw [← Bool.not_eq_true]
    intro q
    rw [RG_o (by omega) (by omega) q] at h; cases h
  · refine RG_zero (d := 0) (by omega) ?_ m (by omega) f (by omega)
    rw [RG_0]
    refine b_same (fun i hi => ?_)
    rw [b_and, b_0, Bool.and_eq_true, bt_bi (by omega) hi]
    constructor
    · rintro ⟨rfl, h2⟩; rw [h2] at h; cases h
    · intro h; cases h
theorem r294 {d : Nat} {Q : XQ} {S : XS} {I : XI} {J : XJ} {r : XR} {x : Int32} {f t : Nat} (hL : LAY S r) (w : WF (I 70)) (hf : f < ce (I 70)) (ht : t < ce (I 70))
    (hQ : ∀ I1, f73 I I1 → (WL (I 70) (ope (I 70) x) f t < 30 → FR I1 (FVB (I 70) (ope (I 70) x) t (ce (I 70) - 1))) → Q (some (.int (WN (I 70) (ope (I 70) x) f t))) S I1 J r) : xcall (d + 6) 294 [.ref 65, .int x, .int (nI f), .int (nI t)] S I J r Q := by
  have hN := ce_le w
  have ho := ope_in w (x := x)
  refine E294 hL (r295 hL w (K294_5 (k294f (d := d + 4) hL (fun I1 fr e => ?_) 30 0 I (by omega) (fun _ _ => rfl) (fun a ha => by omega))))
  have hno : WL (I 70) (ope (I 70) x) f t = 30 → Q (some (.int (-1))) S I1 J r := fun h => by
    have := hQ I1 fr (fun q => by omega)
    unfold WN at this
    rw [if_neg (by omega)] at this
    exact this
  refine c250 (by omega) (fun q => K294_38 (no (by decide) (c250 (by omega) (fun q2 => K294_47 hL (yes (by decide) ⟨vp_in_nI (by omega) (by decide), ?_⟩)) (fun q2 => K294_47 hL (nno rfl (hno (WL_o w hf ht (Or.inr q2)))))))) (fun q => K294_38 (yes rfl (hno (WL_o w hf ht (Or.inl q)))))
  rw [nI_clamp (by omega)]
  refine k294n (t := t) (d := d + 3) hL w ho hf (fun I2 g2 h2 => ?_) rfl (ce (I 70) - 1) 0 _ _ _ (by omega) fr.u (e.w (by omega) ?_ (fun a ha h => ?_))
  · rw [FV_WL w ho hf]
    exact hQ I2 g2 (fun _ => h2)
  · show FV _ _ _ _ 0 t = 1
    rw [FV, RG_0, if_pos]
    rw [b_and, Bool.and_eq_true, bt_bi (by omega) (by omega)]; exact ⟨rfl, q2⟩
  · show FV _ _ _ _ 0 a = 99
    rw [FV, RG_0, if_neg]
    rw [b_and, Bool.and_eq_true, bt_bi (by omega) (by omega)]; exact fun h5 => h h5.1
/-- a step on the way laid -/
theorem k301 {d : Nat} {Q : XQ} {S : XS} {I : XI} {J : XJ} {r : XR} {cu su t d' c : Nat} {o : Int32} (hL : LAY S r) (w : WF (I 70)) (hc : c < ce (I 70)) (hF : FR I (FVB (I 70) o t (ce (I 70) - 1))) (hd : d' + 1 ≤ ce (I 70) - 1) (h1 : bt (RG (bn (I 70) 0) (ce (I 70)) o t (d' + 1)) c = true) (hQ : Q (some (.int (nI (nxc (bn (I 70) 0) (ce (I 70)) o t d' c)))) S I J r) :
    ∀ j i, i + j = ce (I 70) → (∀ q, q < i → (bt (RG (bn (I 70) 0) (ce (I 70)) o t d') q && bsd (bn (I 70) 0) q c) = false) → xrun z0 (xcall (d + 2)) Q 301 2 [.ref 65, .int (nI c), .int (nI i)] [] S I J r cu su
  | 0, i, hi, hn => by
    have hN := ce_le w
    have h2 := nxc_ok (by omega) (by omega) h1
    have h3 := hn _ (by have := h2.1; omega : nxc (bn (I 70) 0) (ce (I 70)) o t d' c < i)
    rw [h2.2.1, h2.2.2] at h3; cases h3
  | j + 1, i, hi, hn => by
    have hN := ce_le w
    have hfc : FVB (I 70) o t (ce (I 70) - 1) c = d' + 1 + 1 := FV_in (by omega) (by omega) h1 (by omega)
    have hfi := FVB_le (t := t) (o := o) w (a := i) (by omega) (ce (I 70) - 1)
    have hfe := FV_eq (w := bn (I 70) 0) (t := t) (o := o) (N := ce (I 70)) (by omega) (a := i) (by omega) (d := ce (I 70) - 1) (e := d') (by omega) (by omega)
    refine K301_2 hL (r259 hL w (K301_7 hL (no (by rw [nI_leI (by omega) (by omega)]; omega) ⟨vp_in_nI (by omega) (by decide), vp_in_nI (by omega) (by decide), ?_⟩)))
    rw [nI_clamp (by omega), nI_clamp (by omega), hF i (by omega), hF c (by omega), hfc, pk_sub (by omega), nI_add, nI_eqI (by omega) (by omega)]
    have nx : (bt (RG (bn (I 70) 0) (ce (I 70)) o t d') i && bsd (bn (I 70) 0) i c) = false → xrun z0 (xcall (d + 2)) Q 301 2 [.ref 65, .int (nI c), .int (nI (i + 1))] [] S I J r cu su := fun hb =>
      k301 hL w hc hF hd h1 hQ j (i + 1) (by omega) (fun q hq => by
        rcases Nat.lt_or_ge q i with q1 | q1
        · exact hn q q1
        · have : q = i := by omega
          subst this; exact hb)
    by_cases h5 : FVB (I 70) o t (ce (I 70) - 1) i = d' + 1 + 1 - 1
    · refine nno h5 (r297 hL w (by omega) (by omega) (fun q => K301_33 (no (by decide) ?_)) (fun q => K301_33 (yes rfl ?_)))
      · have h6 : nxc (bn (I 70) 0) (ce (I 70)) o t d' c = i := lst_is (by omega) (by rw [hfe.mp (by show FVB (I 70) o t (ce (I 70) - 1) i = d' + 1; omega), q]; rfl) hn
        rw [h6] at hQ
        exact hQ
      · rw [nI_add]; exact nx (by rw [q, Bool.and_false])
    · refine yes h5 (nx ?_)
      have h6 : bt (RG (bn (I 70) 0) (ce (I 70)) o t d') i = false := by
        rw [← Bool.not_eq_true]
        intro q
        exact h5 (by have := hfe.mpr q; show FVB (I 70) o t (ce (I 70) - 1) i = _; unfold FVB; omega)
      rw [h6]; rfl
theorem r301 {d : Nat} {Q : XQ} {S : XS} {I : XI} {J : XJ} {r : XR} {t d' c : Nat} {o : Int32} (hL : LAY S r) (w : WF (I 70)) (hc : c < ce (I 70)) (hF : FR I (FVB (I 70) o t (ce (I 70) - 1))) (hd : d' + 1 ≤ ce (I 70) - 1) (h1 : bt (RG (bn (I 70) 0) (ce (I 70)) o t (d' + 1)) c = true) (hQ : Q (some (.int (nI (nxc (bn (I 70) 0) (ce (I 70)) o t d' c)))) S I J r) : xcall (d + 3) 301 [.ref 65, .int (nI c)] S I J r Q :=
  E301 (k301 hL w hc hF hd h1 hQ (ce (I 70)) 0 (by omega) (fun q hq => by omega))
theorem WL_lt {B : Nat → Int32} {o : Int32} {f t : Nat} (hB : WF B) (ho : ∀ i, i < 32 → bt o i = true → i < ce B) (hf : f < ce B) (h : WL B o f t < 30) : WL B o f t < ce B := by
  have hN := ce_le hB
  rcases Nat.lt_or_ge (WL B o f t) (ce B) with q | q
  · exact q
  · have := RG_far (w := bn B 0) (t := t) (by omega) ho q (by omega : f < 32)
    rw [WL_rg h] at this; cases this
theorem k299 {d : Nat} {Q : XQ} {S : XS} {I : XI} {J : XJ} {r : XR} {cu su f t dr : Nat} {o : Int32} (hL : LAY S r) (w : WF (I 70)) (ho : ∀ i, i < 32 → bt o i = true → i < ce (I 70)) (hf : f < ce (I 70)) (hW : WL (I 70) o f t < 30) (hF : FR I (FVB (I 70) o t (ce (I 70) - 1))) (hd : dr ≤ 10)
    (hQ : Q (some (.int (STR (I 70) dr (WY (I 70) o f t) (WL (I 70) o f t)))) S I J r) :
    ∀ j i w1, i + j = WL (I 70) o f t → (∀ q, q < i → bt (shal (I 70) dr) (WY (I 70) o f t q) = false) → xrun z0 (xcall (d + 3)) Q 299 2 [.ref 65, w1, .int (nI dr), .int (nI (WY (I 70) o f t i))] [] S I J r cu su := by
  intro j
  have hN := ce_le w
  have hlt := WL_lt w ho hf hW
  induction j with
  | zero =>
    intro i w1 hi hn
    have e1 : i = WL (I 70) o f t := by omega
    have hy := WY_ok w hf hW (i := i) (by omega)
    have hfv : FVB (I 70) o t (ce (I 70) - 1) (WY (I 70) o f t i) = WL (I 70) o f t - i + 1 := FV_in (by omega) (by omega) hy.2 (by omega)
    have hST : ∀ b, bt (shal (I 70) dr) (WY (I 70) o f t i) = b → STR (I 70) dr (WY (I 70) o f t) (WL (I 70) o f t) = if b = true then nI (WY (I 70) o f t i) else -1 := fun b hb => by
      unfold STR
      cases b
      · rw [if_neg (fun q => ?_)]; rfl
        have h2 := lst_yes q
        rcases Nat.lt_or_ge (lst (fun i => bt (shal (I 70) dr) (WY (I 70) o f t i)) (WL (I 70) o f t + 1)) i with q1 | q1
        · rw [hn _ q1] at h2; cases h2
        · have h3 : lst (fun i => bt (shal (I 70) dr) (WY (I 70) o f t i)) (WL (I 70) o f t + 1) = i := by omega
          rw [h3, hb] at h2; cases h2
      · have h3 := lst_is (p := fun i => bt (shal (I 70) dr) (WY (I 70) o f t i)) (n := WL (I 70) o f t + 1) (i := i) (by omega) hb hn
        rw [h3, if_pos (by omega)]; rfl
    have fin : xcall (d + 3) 300 [.ref 65, .int (nI (WY (I 70) o f t i)), .int (nI dr)] S I J r (fun v S1 I1 J1 r1 => xrun z0 (xcall (d + 3)) Q 299 36 [.ref 65, w1, .int (nI dr), .int (nI (WY (I 70) o f t i))] (v.toList ++ []) S1 I1 J1 r1 cu su) :=
      r300 hL w (by omega) hd (fun q => K299_36 (no (by decide) (by rw [hST _ q] at hQ; exact hQ))) (fun q => K299_36 (yes rfl (by rw [hST _ q] at hQ; exact hQ)))
    refine K299_2 hL (r300 hL w (by omega) hd (fun q => K299_8 hL (yes (by decide) fin)) (fun q => K299_8 hL (nno rfl ⟨vp_in_nI (by omega) (by decide), yes ?_ fin⟩)))
    rw [nI_clamp (by omega), hF _ (by omega), hfv, nI_leI (by omega) (by decide)]; omega
  | succ j ih =>
    intro i w1 hi hn
    have hy := WY_ok w hf hW (i := i) (by omega)
    have e4 : WL (I 70) o f t - i = (WL (I 70) o f t - 1 - i) + 1 := by omega
    rw [e4] at hy
    have hfv : FVB (I 70) o t (ce (I 70) - 1) (WY (I 70) o f t i) = WL (I 70) o f t - 1 - i + 1 + 1 := FV_in (by omega) (by omega) hy.2 (by omega)
    refine K299_2 hL (r300 hL w (by omega) hd (fun q => K299_8 hL (yes (by decide) (r300 hL w (by omega) hd (fun q => K299_36 (no (by decide) ?_)) (fun q2 => by rw [q] at q2; cases q2)))) (fun q => K299_8 hL (nno rfl ⟨vp_in_nI (by omega) (by decide), no ?_ (r301 (o := o) (t := t) (d' := WL (I 70) o f t - 1 - i) hL w hy.1 hF (by omega) hy.2 (K299_26 ?_))⟩)))
    · have h3 := lst_is (p := fun i => bt (shal (I 70) dr) (WY (I 70) o f t i)) (n := WL (I 70) o f t + 1) (i := i) (by omega) q hn
      unfold STR at hQ
      rw [h3, if_pos (by omega)] at hQ
      exact hQ
    · rw [nI_clamp (by omega), hF _ (by omega), hfv, nI_leI (by omega) (by decide)]; omega
    · exact ih (i + 1) _ (by omega) (fun q1 hq => by
        rcases Nat.lt_or_ge q1 i with q2 | q2
        · exact hn q1 q2
        · have : q1 = i := by omega
          subst this; exact q)
theorem r299 {d : Nat} {Q : XQ} {S : XS} {I : XI} {J : XJ} {r : XR} {f t dr : Nat} {o : Int32} (hL : LAY S r) (w : WF (I 70)) (ho : ∀ i, i < 32 → bt o i = true → i < ce (I 70)) (hf : f < ce (I 70)) (hW : WL (I 70) o f t < 30) (hF : FR I (FVB (I 70) o t (ce (I 70) - 1))) (hd : dr ≤ 10)
    (hQ : Q (some (.int (STR (I 70) dr (WY (I 70) o f t) (WL (I 70) o f t)))) S I J r) : xcall (d + 4) 299 [.ref 65, .int (nI f), .int (nI dr)] S I J r Q :=
  E299 (k299 hL w ho hf hW hF hd hQ (WL (I 70) o f t) 0 _ (by omega) (fun q hq => by omega))
