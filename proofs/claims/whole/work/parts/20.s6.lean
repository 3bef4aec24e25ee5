/-! the class's pilot -/
def fcol (w h : Nat) : Int32 := orN (fun q => bi (q * w)) h
def lcol (w h : Nat) : Int32 := fcol w h <<< (nI (w - 1) &&& 31)
def besC (w : Nat) (F L x : Int32) : Int32 := (((x <<< (nI w &&& 31)) ||| (x.toUInt32 >>> ((nI w).toUInt32 &&& Int32.toUInt32 31)).toInt32) ||| ((x &&& (L ^^^ (-1 : Int32))) <<< (nI 1 &&& 31))) ||| ((x &&& (F ^^^ (-1 : Int32))).toUInt32 >>> ((nI 1).toUInt32 &&& Int32.toUInt32 31)).toInt32
theorem bt_fcol {w h i : Nat} (hw : 1 ≤ w ∧ w ≤ 6) (hh : h ≤ 5) (hi : i < w * h) : bt (fcol w h) i = true ↔ i % w = 0 := by
  have hN : w * h ≤ 30 := Nat.le_trans (Nat.mul_le_mul hw.2 hh) (by decide)
  unfold fcol
  rw [bt_orN]
  constructor
  · rintro ⟨j, h2, h3⟩
    have h4 : j * w < w * h := by rw [Nat.mul_comm]; exact Nat.mul_lt_mul_of_pos_left h2 (by omega)
    rw [bt_bi (by omega) (by omega)] at h3
    rw [h3]; exact Nat.mul_mod_left _ _
  · intro h2
    have h3 := Nat.div_add_mod i w
    refine ⟨i / w, by rw [Nat.div_lt_iff_lt_mul (by omega), Nat.mul_comm]; exact hi, ?_⟩
    have h4 : i / w * w = i := by rw [Nat.mul_comm]; omega
    rw [h4, bt_bi (by omega) (by omega)]
theorem bt_fcol_hi {w h i : Nat} (hw : 1 ≤ w ∧ w ≤ 6) (hh : h ≤ 5) (hi : w * h ≤ i) (h32 : i < 32) : bt (fcol w h) i = false := by
  have hN : w * h ≤ 30 := Nat.le_trans (Nat.mul_le_mul hw.2 hh) (by decide)
  rw [← Bool.not_eq_true]
  intro hq
  unfold fcol at hq
  rw [bt_orN] at hq
  obtain ⟨j, h2, h3⟩ := hq
  have h4 : j * w < w * h := by rw [Nat.mul_comm]; exact Nat.mul_lt_mul_of_pos_left h2 (by omega)
  rw [bt_bi (by omega) (by omega)] at h3
  omega
theorem bt_lcol {w h i : Nat} (hw : 1 ≤ w ∧ w ≤ 6) (hh : h ≤ 5) (hi : i < w * h) : bt (lcol w h) i = true ↔ i % w = w - 1 := by
  have hN : w * h ≤ 30 := Nat.le_trans (Nat.mul_le_mul hw.2 hh) (by decide)
  unfold lcol
  rw [b_shl (w - 1) (by omega) _ (by omega), Bool.and_eq_true, decide_eq_true_eq]
  rcases Nat.lt_or_ge i (w - 1) with q | q
  · have : i % w = i := Nat.mod_eq_of_lt (by omega)
    constructor
    · rintro ⟨h1, _⟩; omega
    · intro h1; omega
  · rw [bt_fcol hw hh (by omega)]
    have hx : w = 1 ∨ w = 2 ∨ w = 3 ∨ w = 4 ∨ w = 5 ∨ w = 6 := by omega
    rcases hx with rfl | rfl | rfl | rfl | rfl | rfl <;> omega
theorem bsd_iff {w a b : Nat} : bsd w a b = true ↔ (a = b + w ∨ b = a + w ∨ (a = b + 1 ∧ b % w ≠ w - 1) ∨ (b = a + 1 ∧ a % w ≠ w - 1)) := by
  unfold bsd; rw [decide_eq_true_eq]
theorem mod_s {w i : Nat} (hw : 1 ≤ w ∧ w ≤ 6) : (i + 1) % w = 0 ↔ i % w = w - 1 := by
  have hx : w = 1 ∨ w = 2 ∨ w = 3 ∨ w = 4 ∨ w = 5 ∨ w = 6 := by omega
  rcases hx with rfl | rfl | rfl | rfl | rfl | rfl <;> omega
theorem bt_besC {w h i : Nat} {x : Int32} (hw : 1 ≤ w ∧ w ≤ 6) (hh : h ≤ 5) (hx : ∀ j, j < 32 → bt x j = true → j < w * h) (hi : i < w * h) : bt (besC w (fcol w h) (lcol w h) x) i = true ↔ hasB w (w * h) x i = true := by
  have hN : w * h ≤ 30 := Nat.le_trans (Nat.mul_le_mul hw.2 hh) (by decide)
  unfold besC
  rw [hasB_iff, b_or, b_or, b_or, b_shl w (by omega) _ (by omega), b_ushr w (by omega), b_shl 1 (by decide) _ (by omega), b_ushr 1 (by decide)]
  simp only [Bool.or_eq_true, Bool.and_eq_true, decide_eq_true_eq, bsd_iff]
  constructor
  · rintro (((⟨h1, h2⟩ | h1) | ⟨h1, h2⟩) | h1)
    · exact ⟨i - w, by omega, h2, Or.inl (by omega)⟩
    · have h2 : w + i < 32 := by
        rcases Nat.lt_or_ge (w + i) 32 with q | q
        · exact q
        · rw [b_big q] at h1; cases h1
      exact ⟨w + i, hx _ h2 h1, h1, Or.inr (Or.inl (by omega))⟩
    · rw [b_and, bt_not (by omega), Bool.and_eq_true, Bool.not_eq_true', ← Bool.not_eq_true, bt_lcol hw hh (by omega)] at h2
      exact ⟨i - 1, by omega, h2.1, Or.inr (Or.inr (Or.inl ⟨by omega, h2.2⟩))⟩
    · have h3 : 1 + i < 32 := by omega
      rw [b_and, Bool.and_eq_true, bt_not h3, Bool.not_eq_true', ← Bool.not_eq_true] at h1
      have h4 := hx _ h3 h1.1
      rw [bt_fcol hw hh h4, Nat.add_comm 1 i, mod_s hw] at h1
      exact ⟨1 + i, h4, by rw [Nat.add_comm]; exact h1.1, Or.inr (Or.inr (Or.inr ⟨by omega, h1.2⟩))⟩
  · rintro ⟨b, h1, h2, h3 | h3 | ⟨h3, h4⟩ | ⟨h3, h4⟩⟩
    · exact Or.inl (Or.inl (Or.inl ⟨by omega, by rw [h3, Nat.add_sub_cancel]; exact h2⟩))
    · exact Or.inl (Or.inl (Or.inr (by rw [Nat.add_comm, ← h3]; exact h2)))
    · refine Or.inl (Or.inr ⟨by omega, ?_⟩)
      rw [b_and, bt_not (by omega), Bool.and_eq_true, Bool.not_eq_true', ← Bool.not_eq_true, bt_lcol hw hh (by omega), show i - 1 = b by omega]
      exact ⟨h2, h4⟩
    · refine Or.inr ?_
      rw [b_and, Bool.and_eq_true, bt_not (by omega), Bool.not_eq_true', ← Bool.not_eq_true, Nat.add_comm 1 i, ← h3, bt_fcol hw hh h1, h3, mod_s hw]
      exact ⟨by rw [← h3]; exact h2, h4⟩
/-- what is beside, of what is left -/
theorem besC_left {w h : Nat} {x l : Int32} (hw : 1 ≤ w ∧ w ≤ 6) (hh : h ≤ 5) (hx : ∀ j, j < 32 → bt x j = true → j < w * h) (hl : ∀ j, j < 32 → bt l j = true → j < w * h) : besC w (fcol w h) (lcol w h) x &&& l = bset w (w * h) x &&& l := b_same (fun i hi => by
  have hN : w * h ≤ 30 := Nat.le_trans (Nat.mul_le_mul hw.2 hh) (by decide)
  rw [b_and, b_and, Bool.and_eq_true, Bool.and_eq_true]
  constructor
  · rintro ⟨h1, h2⟩
    have h3 := hl i hi h2
    exact ⟨(bt_bset (by omega) hi).mpr ⟨h3, (bt_besC hw hh hx h3).mp h1⟩, h2⟩
  · rintro ⟨h1, h2⟩
    have h3 := (bt_bset (by omega) hi).mp h1
    exact ⟨(bt_besC hw hh hx h3.1).mpr h3.2, h2⟩)
/-! one place after another -/
theorem up_e {α : Type} {f : Nat → Nat → α} {a i : Nat} {v : α} : up2 f a i v a i = v := by unfold up2; rw [if_pos rfl, if_pos rfl]
theorem up_o {α : Type} {f : Nat → Nat → α} {a i q : Nat} {v : α} (h : q ≠ a) : up2 f a i v q = f q := by funext y; unfold up2; rw [if_neg h]
theorem up_i {α : Type} {f : Nat → Nat → α} {a i j : Nat} {v : α} (h : j ≠ i) : up2 f a i v a j = f a j := by unfold up2; rw [if_pos rfl, if_neg h]
/-- all but the three rows at a are as they were -/
def fr3 (a : Nat) (I I' : XI) : Prop := ∀ q, q < a ∨ a + 2 < q → I' q = I q
theorem fr3.r (a : Nat) (I : XI) : fr3 a I I := fun _ _ => rfl
theorem fr3.u {a q i : Nat} {v : Int32} {I I' : XI} (h : fr3 a I I') (h1 : a ≤ q) (h2 : q ≤ a + 2) : fr3 a I (up2 I' q i v) := fun p hp => by rw [up_o (by omega)]; exact h p hp
theorem fr3.t {a : Nat} {I I' I2 : XI} (h : fr3 a I I') (h2 : fr3 a I' I2) : fr3 a I I2 := fun p hp => (h2 p hp).trans (h p hp)
theorem CR.fr {I I' : XI} {J : XJ} {a : Nat} {B : Nat → Int32} {W : Nat → Int64} (c : CR I J a B W) (h : ∀ q, a ≤ q → q ≤ a + 10 → I' q = I q) : CR I' J a B W := by
  have e : ∀ q, q ≤ 10 → I' (a + q) = I (a + q) := fun q hq => h _ (by omega) (by omega)
  have e0 : I' a = I a := e 0 (by decide)
  unfold CR
  rw [e0, e 1 (by decide), e 2 (by decide), e 3 (by decide), e 5 (by decide), e 6 (by decide), e 7 (by decide), e 8 (by decide), e 9 (by decide), e 10 (by decide)]
  exact c
theorem CR.f3 {I I' : XI} {J : XJ} {a p : Nat} {B : Nat → Int32} {W : Nat → Int64} (c : CR I J a B W) (h : fr3 p I I') (hp : p + 2 < a) : CR I' J a B W := c.fr (fun q h1 _ => h q (by omega))
theorem fcol_s {w i : Nat} : orN (fun q => bi (q * w)) i ||| bi (i * w) = orN (fun q => bi (q * w)) (i + 1) := rfl
theorem k126 {d : Nat} {Q : XQ} {S : XS} {I : XI} {J : XJ} {r : XR} {cu su a p w h : Nat} {J' : XJ} {B : Nat → Int32} {W : Nat → Int64} (h0 : LY4 S r p) (h1 : LY0 S r a) (hp : p + 2 < a) (c : CR I J' a B W) (hw : bn B 0 = w) (hh : bn B 1 = h) (hQ : ∀ I', fr3 p I I' → I' p 3 = nI w → I' p 4 = fcol w h → I' p 5 = lcol w h → I' p 1 = I p 1 → (∀ i, I' (p + 1) i = I (p + 1) i) → Q none S I' J r) : ∀ j i I1, i + j = h → fr3 p I I1 → I1 p 3 = nI w → I1 p 4 = orN (fun q => bi (q * w)) i → I1 p 1 = I p 1 → (∀ i, I1 (p + 1) i = I (p + 1) i) → xrun z0 (xcall d) Q 126 15 [.ref p, .ref a, .int (nI i)] [] S I1 J r cu su
  | 0, i, I1, hi, f, e3, e4, e5, e6 => by
    have hW := c.wf.w
    have hH := c.wf.h
    have e : i = h := by omega
    subst e
    refine K126_15 h0 h1 (yes ?_ (hQ _ (f.u (by omega) (by omega)) ?_ ?_ ?_ ?_ (fun i => ?_)))
    · rw [f a (by omega), c.n1, hh]; exact Int32.le_refl _
    · rw [up_i (by decide)]; exact e3
    · rw [up_i (by decide)]; exact e4
    · rw [up_e, e3, e4, pk_sub (by omega)]; rfl
    · rw [up_i (by decide)]; exact e5
    · rw [up_o (by omega)]; exact e6 i
  | j + 1, i, I1, hi, f, e3, e4, e5, e6 => by
    have hW := c.wf.w
    have hH := c.wf.h
    refine K126_15 h0 h1 (no ?_ ?_)
    · rw [f a (by omega), c.n1, hh, nI_leI (by omega) (by omega)]; omega
    rw [e3, pk_mul, nI_add, e4]
    refine k126 h0 h1 hp c hw hh hQ j (i + 1) _ (by omega) (f.u (by omega) (by omega)) ?_ ?_ ?_ (fun i => ?_)
    · rw [up_i (by decide)]; exact e3
    · rw [up_e]; rfl
    · rw [up_i (by decide)]; exact e5
    · rw [up_o (by omega)]; exact e6 i
theorem c126 {d : Nat} {Q : XQ} {S : XS} {I : XI} {J : XJ} {r : XR} {a p w h : Nat} {J' : XJ} {B : Nat → Int32} {W : Nat → Int64} (h0 : LY4 S r p) (h1 : LY0 S r a) (hp : p + 2 < a) (c : CR I J' a B W) (hw : bn B 0 = w) (hh : bn B 1 = h) (hQ : ∀ I', fr3 p I I' → I' p 3 = nI w → I' p 4 = fcol w h → I' p 5 = lcol w h → I' p 1 = I p 1 → (∀ i, I' (p + 1) i = I (p + 1) i) → Q none S I' J r) : xcall (d + 1) 126 [.ref p, .ref a] S I J r Q := by
  refine E126 h0 h1 (k126 h0 h1 hp c hw hh hQ h 0 _ (by omega) (((fr3.r p I).u (by omega) (by omega)).u (by omega) (by omega)) ?_ ?_ ?_ (fun i => ?_))
  · rw [up_i (by decide), up_e, c.n0, hw]
  · rw [up_e]; rfl
  · rw [up_i (by decide), up_i (by decide)]
  · rw [up_o (by omega), up_o (by omega)]
theorem c128 {d : Nat} {Q : XQ} {S : XS} {I : XI} {J : XJ} {r : XR} {p w : Nat} {F L x : Int32} (h0 : LY4 S r p) (e3 : I p 3 = nI w) (e4 : I p 4 = F) (e5 : I p 5 = L) (hQ : Q (some (.int (besC w F L x))) S I J r) : xcall (d + 1) 128 [.ref p, .int x] S I J r Q := by
  refine E128 h0 ?_
  rw [e3, e4, e5]
  exact hQ
/-- what the pilot's rows hold: the coast's edges, the rings up to d -/
def PR (I : XI) (p w h : Nat) (o : Int32) (t d : Nat) : Prop := I p 3 = nI w ∧ I p 4 = fcol w h ∧ I p 5 = lcol w h ∧ ∀ e, e ≤ d → I (p + 2) e = RG w (w * h) o t e
theorem k127 {d : Nat} {Q : XQ} {S : XS} {I : XI} {J : XJ} {r : XR} {cu su p w h t f : Nat} {o : Int32} (h0 : LY4 S r p) (hw : 1 ≤ w ∧ w ≤ 6) (hh : h ≤ 5) (ho : ∀ i, i < 32 → bt o i = true → i < w * h) (hf : f < w * h)
    (hY : ∀ m I', m < 30 → bt (RG w (w * h) o t m) f = true → fr3 p I I' → PR I' p w h o t m → Q (some (.int (nI m))) S I' J r) (hN : ∀ I', (∀ m, bt (RG w (w * h) o t m) f = false) → fr3 p I I' → Q (some (.int (-1))) S I' J r) : ∀ j d1 I1 w1 w3, d1 + j = 30 → (∀ m, m < d1 → bt (RG w (w * h) o t m) f = false) → fr3 p I I1 → PR I1 p w h o t d1 → xrun z0 (xcall (d + 1)) Q 127 26 [.ref p, w1, .int (nI f), w3, .int (LF w (w * h) o t d1), .int (nI d1)] [] S I1 J r cu su
  | 0, d1, I1, w1, w3, hi, hno, fr, e => by
    have hNN : w * h ≤ 30 := Nat.le_trans (Nat.mul_le_mul hw.2 hh) (by decide)
    have e1 : d1 = 30 := by omega
    subst e1
    refine K127_26 h0 (yes (by decide) (hN _ (fun m => ?_) fr))
    rcases Nat.lt_or_ge m 30 with q | q
    · exact hno m q
    · exact RG_far (by omega) ho (by omega) (by omega)
  | j + 1, d1, I1, w1, w3, hi, hno, fr, e => by
    have hNN : w * h ≤ 30 := Nat.le_trans (Nat.mul_le_mul hw.2 hh) (by decide)
    refine K127_26 h0 (no (by rw [nI_leI (by omega) (by omega)]; omega) ⟨vp_in_nI (by omega) (by decide), ?_⟩)
    rw [nI_clamp (by omega), e.2.2.2 d1 (Nat.le_refl _)]
    by_cases hz : RG w (w * h) o t d1 = 0
    · refine yes hz (hN _ (fun m => ?_) fr)
      rcases Nat.lt_or_ge m d1 with q | q
      · exact hno m q
      · exact RG_zero (by omega) hz m q f (by omega)
    · refine no hz ⟨vp_in_nI (by omega) (by decide), ?_⟩
      rw [bt_down (by omega)]
      cases hb : bt (RG w (w * h) o t d1) f
      · refine yes rfl ⟨vp_in_nI (by omega) (by decide), c128 h0 e.1 e.2.1 e.2.2.1 (K127_79 h0 ?_)⟩
        rw [nI_add]
        refine ⟨vp_in_nI (by omega) (by decide), vp_in_nI (by omega) (by decide), ?_⟩
        have hx : ∀ j, j < 32 → bt (RG w (w * h) o t d1) j = true → j < w * h := fun j hj q => ho j hj (RG_o (by omega) hj q)
        have hl : ∀ j, j < 32 → bt (LF w (w * h) o t d1) j = true → j < w * h := fun j hj q => ho j hj ((bt_LF hj d1).mp q).1
        rw [nI_clamp (by omega), up_e, besC_left hw hh hx hl, ← RG_s, ← LF_s]
        refine k127 h0 hw hh ho hf hY hN j (d1 + 1) _ _ _ (by omega) (fun m hm => ?_) (fr.u (by omega) (by omega)) ⟨?_, ?_, ?_, fun e1 he1 => ?_⟩
        · rcases Nat.lt_or_ge m d1 with q | q
          · exact hno m q
          · have : m = d1 := by omega
            subst this; exact hb
        · rw [up_o (by omega)]; exact e.1
        · rw [up_o (by omega)]; exact e.2.1
        · rw [up_o (by omega)]; exact e.2.2.1
        · rcases Nat.lt_or_ge d1 e1 with q | q
          · have : e1 = d1 + 1 := by omega
            subst this; rw [up_e]
          · rw [up_i (by omega)]; exact e.2.2.2 e1 q
      · exact no (by decide) (hY d1 _ (by omega) hb fr e)
theorem c127 {d : Nat} {Q : XQ} {S : XS} {I : XI} {J : XJ} {r : XR} {p w h t f : Nat} {o : Int32} (h0 : LY4 S r p) (hw : 1 ≤ w ∧ w ≤ 6) (hh : h ≤ 5) (ho : ∀ i, i < 32 → bt o i = true → i < w * h) (hf : f < w * h) (e3 : I p 3 = nI w) (e4 : I p 4 = fcol w h) (e5 : I p 5 = lcol w h)
    (hY : ∀ m I', m < 30 → bt (RG w (w * h) o t m) f = true → fr3 p I I' → PR I' p w h o t m → Q (some (.int (nI m))) S I' J r) (hN : ∀ I', (∀ m, bt (RG w (w * h) o t m) f = false) → fr3 p I I' → Q (some (.int (-1))) S I' J r) : xcall (d + 2) 127 [.ref p, .int o, .int (nI f), .int (nI t)] S I J r Q := by
  refine E127 h0 ?_
  rw [up_e, ← RG_0 (w := w) (N := w * h), ← LF_0]
  refine k127 h0 hw hh ho hf hY hN 30 0 _ _ _ (by omega) (fun m hm => by omega) ((fr3.r p I).u (by omega) (by omega)) ⟨?_, ?_, ?_, fun e he => ?_⟩
  · rw [up_o (by omega)]; exact e3
  · rw [up_o (by omega)]; exact e4
  · rw [up_o (by omega)]; exact e5
  · have : e = 0 := by omega
    subst this; rw [up_e]
