/-! fractions -/
theorem l_i {a : Nat} (h : a < 9223372036854775808) : (lN a).toInt = (a : Int) := Int64.toInt_ofNat_of_lt h
theorem l_0 {a : Nat} (h : a < 9223372036854775808) : lN a = 0 ↔ a = 0 := by
  constructor
  · intro q
    have := congrArg Int64.toInt q
    rw [l_i h] at this
    have h2 : (0 : Int64).toInt = 0 := rfl
    omega
  · rintro rfl; rfl
theorem l_div {a d : Nat} (ha : a < 9223372036854775808) (hd : d < 9223372036854775808) : lN a / lN d = lN (a / d) := by
  apply Int64.toInt_inj.mp
  rw [Int64.toInt_div_of_ne_right _ _ (fun q => by
    have := congrArg Int64.toInt q
    rw [l_i hd] at this
    have h2 : (-1 : Int64).toInt = -1 := rfl
    omega), l_i ha, l_i hd, l_i (Nat.lt_of_le_of_lt (Nat.div_le_self a d) ha)]
  exact (Int.ofNat_tdiv a d).symm
theorem l_rem {a d : Nat} (ha : a < 9223372036854775808) (hd : d < 9223372036854775808) : lN a - lN a / lN d * lN d = lN (a % d) := by
  rw [l_div ha hd, lN_mul, lN_sub (Nat.div_mul_le_self a d)]
  congr 1
  have := Nat.div_add_mod a d
  rw [Nat.mul_comm] at this
  omega
theorem cmp_0 {a : Nat} (h : a < 9223372036854775808) : lg_cmp (lN a) (lN 0) = 0 ↔ a = 0 := by
  unfold lg_cmp
  by_cases q : lN a > lN 0
  · rw [if_pos q]
    rw [i_gt, l_i h, l_i (by decide)] at q
    constructor
    · intro h; exact absurd h (by decide)
    · intro h; omega
  · rw [if_neg q]
    rw [i_gt, l_i h, l_i (by decide)] at q
    have h2 : a = 0 := by omega
    subst h2
    rw [if_pos rfl]; simp
theorem k170 {d : Nat} {Q : XQ} {S : XS} {I : XI} {J : XJ} {r : XR} {cu su : Nat} {w0 w1 w2 : Value} : ∀ k a b i w3 w5 w7 w9 w10, a < 9223372036854775808 → b < 9223372036854775808 → b < 2 ^ k → i + 2 * k + 1 ≤ 200 → (Q (some (.long (lN (Nat.gcd a b)))) S I J r) → xrun z0 (xcall d) Q 170 9 [w0, w1, w2, w3, .long (lN a), w5, .long (lN b), w7, .int (nI i), w9, w10] [] S I J r cu su := by
  intro k
  have stop : ∀ a i w3 w5 w7 w9 w10, i < 200 → Q (some (.long (lN (Nat.gcd a 0)))) S I J r → xrun z0 (xcall d) Q 170 9 [w0, w1, w2, w3, .long (lN a), w5, .long (lN 0), w7, .int (nI i), w9, w10] [] S I J r cu su := fun a i w3 w5 w7 w9 w10 hi hQ => by
    rw [Nat.gcd_zero_right] at hQ
    exact K170_9 (no (by rw [nI_leI (by decide) (by omega)]; omega) (yes ((cmp_0 (by decide)).mpr rfl) hQ))
  have step : ∀ a b i w3 w5 w7 w9 w10, i < 200 → a < 9223372036854775808 → b < 9223372036854775808 → b ≠ 0 → (∀ w3 w5 w7 w9 w10, xrun z0 (xcall d) Q 170 9 [w0, w1, w2, w3, .long (lN b), w5, .long (lN (a % b)), w7, .int (nI (i + 1)), w9, w10] [] S I J r cu su) → xrun z0 (xcall d) Q 170 9 [w0, w1, w2, w3, .long (lN a), w5, .long (lN b), w7, .int (nI i), w9, w10] [] S I J r cu su := fun a b i w3 w5 w7 w9 w10 hi ha hb h0 hK => by
    refine K170_9 (no (by rw [nI_leI (by decide) (by omega)]; omega) (no (fun q => h0 ((cmp_0 hb).mp q)) ⟨fun q => h0 ((l_0 hb).mp q), ?_⟩))
    rw [l_rem ha hb, nI_add]
    exact hK _ _ _ _ _
  induction k with
  | zero =>
    intro a b i w3 w5 w7 w9 w10 ha hb hk hi hQ
    have : b = 0 := by omega
    subst this
    exact stop a i w3 w5 w7 w9 w10 (by omega) hQ
  | succ k ih =>
    intro a b i w3 w5 w7 w9 w10 ha hb hk hi hQ
    by_cases h0 : b = 0
    · subst h0; exact stop a i w3 w5 w7 w9 w10 (by omega) hQ
    · have hr : a % b < b := Nat.mod_lt _ (by omega)
      have hg : Nat.gcd a b = Nat.gcd b (a % b) := by rw [Nat.gcd_comm a b, Nat.gcd_rec, Nat.gcd_comm]
      rw [hg] at hQ
      refine step a b i w3 w5 w7 w9 w10 (by omega) ha hb h0 (fun w3 w5 w7 w9 w10 => ?_)
      by_cases h1 : a % b = 0
      · rw [h1] at hQ ⊢
        exact stop b (i + 1) w3 w5 w7 w9 w10 (by omega) hQ
      · have hr2 : b % (a % b) < a % b := Nat.mod_lt _ (by omega)
        have hg2 : Nat.gcd b (a % b) = Nat.gcd (a % b) (b % (a % b)) := by rw [Nat.gcd_comm b, Nat.gcd_rec, Nat.gcd_comm]
        rw [hg2] at hQ
        refine step b (a % b) (i + 1) w3 w5 w7 w9 w10 (by omega) hb (by omega) h1 (fun w3 w5 w7 w9 w10 => ?_)
        refine ih (a % b) (b % (a % b)) (i + 1 + 1) w3 w5 w7 w9 w10 (by omega) (by omega) ?_ (by omega) hQ
        have h5 := Nat.div_add_mod b (a % b)
        have h6 : 1 ≤ b / (a % b) := by rw [Nat.le_div_iff_mul_le (by omega)]; omega
        have h7 : (a % b) * 1 ≤ (a % b) * (b / (a % b)) := Nat.mul_le_mul_left _ h6
        rw [Nat.pow_succ] at hk
        omega
theorem c170 {d : Nat} {Q : XQ} {S : XS} {I : XI} {J : XJ} {r : XR} {a b : Nat} (ha : a < 9223372036854775808) (hb : b < 9223372036854775808) (hQ : Q (some (.long (lN (Nat.gcd a b)))) S I J r) : xcall (d + 1) 170 [.long (lN a), .long (lN b)] S I J r Q :=
  E170 (k170 63 a b 0 _ _ _ _ _ ha hb hb (by decide) hQ)
theorem c169 {d : Nat} {Q : XQ} {S : XS} {I : XI} {J : XJ} {r : XR} {a b : Nat} (hL : LAY S r) (ha : a < 9223372036854775808) (hb : b < 9223372036854775808) (hb0 : 0 < b) (hQ : Q none S I (up2 (up2 J 1 0 (lN (a / Nat.gcd a b))) 1 1 (lN (b / Nat.gcd a b))) r) : xcall (d + 2) 169 [.ref 1, .long (lN a), .long (lN b)] S I J r Q := by
  have hg : 0 < Nat.gcd a b := Nat.gcd_pos_of_pos_right _ hb0
  have hg2 : Nat.gcd a b ≤ b := Nat.gcd_le_right _ hb0
  refine E169 (c170 ha hb (K169_5 hL (no (fun q => ?_) ⟨fun q => ?_, fun q => ?_, ?_⟩)))
  · have h1 : 0 < lg_cmp (lN (Nat.gcd a b)) (lN 0) := by rw [i_cmp2, l_i (by decide), l_i (by omega)]; omega
    rw [i_lt, i_z] at h1
    rw [i_le, i_z] at q
    omega
  · rw [l_0 (by omega)] at q; omega
  · rw [l_0 (by omega)] at q; omega
  · rw [l_div ha (by omega), l_div hb (by omega)]
    exact hQ
theorem k334 {d : Nat} {Q : XQ} {S : XS} {I : XI} {J : XJ} {r : XR} {cu su A B' : Nat} {w2 w4 : Value} (hL : LAY S r) (hA : A < 9223372036854775808) (hB : B' < 9223372036854775808) (hB0 : 0 < B') (hQ : Q (some (.int 1)) S I (up2 (up2 J 65 2 (lN (A / Nat.gcd A B'))) 65 3 (lN (B' / Nat.gcd A B'))) r) :
    ∀ n b a w4 w6 w8 w9 w10, b < n → a < 9223372036854775808 → b < 9223372036854775808 → Nat.gcd a b = Nat.gcd A B' → xrun z0 (xcall d) Q 334 9 [.ref 65, .long (lN A), w2, .long (lN B'), w4, .long (lN a), w6, .long (lN b), w8, w9, w10] [] S I J r cu su := by
  intro n
  have hg : 0 < Nat.gcd A B' := Nat.gcd_pos_of_pos_right _ hB0
  have hg2 : Nat.gcd A B' ≤ B' := Nat.gcd_le_right _ hB0
  induction n with
  | zero => intro b a w4 w6 w8 w9 w10 h; exact absurd h (Nat.not_lt_zero _)
  | succ n ih =>
    intro b a w4 w6 w8 w9 w10 hn ha hb hab
    by_cases h0 : b = 0
    · subst h0
      rw [Nat.gcd_zero_right] at hab
      subst hab
      refine K334_9 hL (yes ((cmp_0 (by decide)).mpr rfl) ⟨fun q => ?_, fun q => ?_, ?_⟩)
      · rw [l_0 (by omega)] at q; omega
      · rw [l_0 (by omega)] at q; omega
      · rw [l_div hA (by omega), l_div hB (by omega)]
        exact hQ
    · have hr : a % b < b := Nat.mod_lt _ (by omega)
      have hgr : Nat.gcd a b = Nat.gcd b (a % b) := by rw [Nat.gcd_comm a b, Nat.gcd_rec, Nat.gcd_comm]
      refine K334_9 hL (no (fun q => h0 ((cmp_0 hb).mp q)) ⟨fun q => h0 ((l_0 hb).mp q), ?_⟩)
      rw [l_rem ha hb]
      exact ih (a % b) b _ _ _ _ _ (by omega) hb (by omega) (by rw [← hgr]; exact hab)
theorem r334 {d : Nat} {Q : XQ} {S : XS} {I : XI} {J : XJ} {r : XR} {a b : Nat} (hL : LAY S r) (ha : a < 9223372036854775808) (hb : b < 9223372036854775808) (hb0 : 0 < b) (hQ : Q (some (.int 1)) S I (up2 (up2 J 65 2 (lN (a / Nat.gcd a b))) 65 3 (lN (b / Nat.gcd a b))) r) : xcall (d + 2) 334 [.ref 65, .long (lN a), .long (lN b)] S I J r Q := by
  have h0 : 0 ≤ lg_cmp (lN a) (lN 0) := by
    have h1 : ¬ lg_cmp (lN a) (lN 0) < 0 := by rw [i_cmp, l_i ha, l_i (by decide)]; omega
    rw [i_lt, i_z] at h1
    rw [i_le, i_z]; omega
  exact E334 (E335 (yes h0 (K334_4 (k334 (w2 := .float 0) (w4 := .float 0) hL ha hb hb0 hQ (b + 1) b a _ _ _ _ _ (by omega) ha hb rfl))))
/-! odds -/
/-- of i tries, by p sixteenths each: in how many sixteen-folds h of them hit -/
def wys (p : Nat) : Nat → Nat → Nat
  | 0, 0 => 1
  | 0, _ + 1 => 0
  | i + 1, 0 => wys p i 0 * (16 - p)
  | i + 1, h + 1 => wys p i (h + 1) * (16 - p) + wys p i h * p
theorem wys_0 {p : Nat} : ∀ i h, i < h → wys p i h = 0
  | 0, 0, q => by omega
  | 0, _ + 1, _ => rfl
  | i + 1, 0, q => by omega
  | i + 1, h + 1, q => by rw [wys, wys_0 i (h + 1) (by omega), wys_0 i h (by omega)]; simp
def sm (f : Nat → Nat) (m : Nat) : Nat → Nat
  | 0 => 0
  | n + 1 => sm f m n + (if m ≤ n then f n else 0)
theorem sm_s {f : Nat → Nat} {m n : Nat} : sm f m (n + 1) = sm f m n + (if m ≤ n then f n else 0) := rfl
theorem sm_all {p : Nat} (hp : p ≤ 16) (i : Nat) : ∀ n, sm (wys p (i + 1)) 0 (n + 1) + wys p i n * p = sm (wys p i) 0 (n + 1) * 16
  | 0 => by
    simp only [sm, wys, Nat.le_refl, if_true, Nat.zero_add]
    rw [← Nat.mul_add]
    congr 1
    omega
  | n + 1 => by
    have ih := sm_all hp i n
    rw [sm_s (n := n + 1), sm_s (f := wys p i) (n := n + 1), if_pos (Nat.zero_le _), if_pos (Nat.zero_le _), Nat.add_mul, ← ih, wys]
    have : wys p i (n + 1) * 16 = wys p i (n + 1) * (16 - p) + wys p i (n + 1) * p := by rw [← Nat.mul_add]; congr 1; omega
    omega
theorem sm_pow {p : Nat} (hp : p ≤ 16) : ∀ i n, i < n → sm (wys p i) 0 n = 16 ^ i
  | 0, 0, q => by omega
  | 0, n + 1, _ => by
    have : ∀ n, sm (wys p 0) 0 (n + 1) = 1 := by
      intro n
      induction n with
      | zero => rfl
      | succ n ih => rw [sm, ih, if_pos (Nat.zero_le _)]; rfl
    rw [this]
  | i + 1, 0, q => by omega
  | i + 1, n + 1, q => by
    have h := sm_all hp i n
    rw [wys_0 i n (by omega), Nat.zero_mul, Nat.add_zero] at h
    rw [h, sm_pow hp i (n + 1) (by omega), Nat.pow_succ]
theorem sm_le {f : Nat → Nat} {m : Nat} : ∀ n, sm f m n ≤ sm f 0 n
  | 0 => Nat.le_refl _
  | n + 1 => by
    have := sm_le (f := f) (m := m) n
    rw [sm, sm, if_pos (Nat.zero_le _)]
    split <;> omega
/-- the odds' top -/
def otp (n p m : Nat) : Nat := sm (wys p n) m 16
theorem otp_le {n p m : Nat} (hn : n ≤ 15) (hp : p ≤ 16) : otp n p m ≤ 16 ^ n := by
  unfold otp
  rw [← sm_pow hp n 16 (by omega)]
  exact sm_le 16
theorem sm_cut {f : Nat → Nat} {m k : Nat} (h : ∀ i, k ≤ i → f i = 0) : ∀ n, k ≤ n → sm f m n = sm f m k
  | 0, h0 => by rw [show k = 0 by omega]
  | n + 1, h0 => by
    rcases Nat.lt_or_ge n k with q | q
    · rw [show k = n + 1 by omega]
    · rw [sm, sm_cut h n q, h n q]; simp
theorem pow16 {n : Nat} (h : n ≤ 15) : 16 ^ n < 9223372036854775808 ∧ 0 < 16 ^ n := ⟨Nat.lt_of_le_of_lt (Nat.pow_le_pow_right (by decide) h) (by decide), Nat.pow_pos (by decide)⟩
/-- the row of ways in the midst of the try i + 1: from j on it is the new one -/
def wmd (p i j h : Nat) : Nat := if j ≤ h then wys p (i + 1) h else wys p i h
/-- the class's ways -/
def WR (J : XJ) (a : Nat) (f : Nat → Nat) : Prop := ∀ h, h < 16 → J a h = lN (f h)
theorem WR.w {J : XJ} {a : Nat} {f g : Nat → Nat} {i v : Nat} (h : WR J a f) (h1 : g i = v) (h2 : ∀ x, x < 16 → x ≠ i → g x = f x) : WR (up2 J a i (lN v)) a g := fun x hx => by
  by_cases q : x = i
  · subst q; rw [up_e, h1]
  · rw [up_i q, h2 x hx q]; exact h x hx
def jf (a : Nat) (J J' : XJ) : Prop := ∀ q, q ≠ a → J' q = J q
theorem jf.u {a i : Nat} {v : Int64} {J J' : XJ} (h : jf a J J') : jf a J (up2 J' a i v) := fun q hq => by rw [up_o hq]; exact h q hq
theorem p_l {p : Nat} (hp : p ≤ 16) : (nI 16 - nI p).toInt64 = lN (16 - p) ∧ (nI p).toInt64 = lN p := ⟨by rw [pk_sub hp, nI_l (by omega)], by rw [nI_l (by omega)]⟩
theorem wmd_new {p i j : Nat} : wmd p i (j + 1) (j + 1) = wys p i (j + 1) * (16 - p) + wys p i j * p := by
  unfold wmd; rw [if_pos (Nat.le_refl _)]; rfl
theorem k168i {d : Nat} {Q : XQ} {S : XS} {I : XI} {J : XJ} {r : XR} {cu su n p i : Nat} (hL : LAY S r) (hp : p ≤ 16) (hi : i < 15)
    (hK : ∀ J1 w4 w5 w6, jf 2 J J1 → WR J1 2 (wys p (i + 1)) → xrun z0 (xcall d) Q 168 33 [.ref 1, .int (nI n), .int (nI p), .int (nI (i + 2)), w4, w5, w6] [] S I J1 r cu su) :
    ∀ j J1 w5 w6, j ≤ i + 1 → jf 2 J J1 → WR J1 2 (wmd p i (j + 1)) → xrun z0 (xcall d) Q 168 50 [.ref 1, .int (nI n), .int (nI p), .int (nI (i + 1)), .int (nI j), w5, w6] [] S I J1 r cu su
  | 0, J1, w5, w6, hj, g, e => by
    refine K168_50 hL (yes (by decide) ?_)
    rw [nI_add, (p_l hp).1, e 0 (by decide), lN_mul]
    refine hK _ _ _ _ g.u (e.w ?_ (fun x hx h0 => ?_))
    · unfold wmd; rw [if_neg (by omega)]; rfl
    · unfold wmd; rw [if_pos (by omega)]
  | j + 1, J1, w5, w6, hj, g, e => by
    refine K168_50 hL (no (nI_nle (by omega) (by omega)) ⟨vp_in_nI (by omega) (by decide), ?_⟩)
    rw [pk_sub (by omega), nI_clamp (by omega), nI_clamp (by omega), (p_l hp).1, (p_l hp).2, Nat.add_sub_cancel, e (j + 1) (by omega), e j (by omega), lN_mul, lN_mul, lN_add, pk_m1]
    refine ⟨vp_in_nI (by omega) (by decide), vp_in_nI (by omega) (by decide), k168i hL hp hi hK j _ _ _ (by omega) g.u (e.w ?_ (fun x hx h0 => ?_))⟩
    · rw [wmd_new]
      unfold wmd
      rw [if_neg (by omega), if_neg (by omega)]
    · unfold wmd
      by_cases q : j + 1 + 1 ≤ x
      · rw [if_pos q, if_pos (by omega)]
      · rw [if_neg q, if_neg (by omega)]
theorem wmd_0 {p i h : Nat} (hi : h < 16 → i + 1 < h → True) : wmd p i (i + 2) h = wys p i h := by
  unfold wmd
  split
  · rw [wys_0 (i + 1) h (by omega), wys_0 i h (by omega)]
  · rfl
theorem k168 {d : Nat} {Q : XQ} {S : XS} {I : XI} {J : XJ} {r : XR} {cu su n p : Nat} (hL : LAY S r) (hp : p ≤ 16) (hn : n ≤ 15) (hQ : ∀ J1, jf 2 J J1 → WR J1 2 (wys p n) → Q none S I J1 r) :
    ∀ j i J1 w4 w5 w6, i + j = n → jf 2 J J1 → WR J1 2 (wys p i) → xrun z0 (xcall d) Q 168 33 [.ref 1, .int (nI n), .int (nI p), .int (nI (i + 1)), w4, w5, w6] [] S I J1 r cu su
  | 0, i, J1, w4, w5, w6, hi, g, e => by
    have e1 : i = n := by omega
    subst e1
    exact K168_33 hL (yes (by rw [nI_ltI (by omega) (by omega)]; omega) (hQ J1 g e))
  | j + 1, i, J1, w4, w5, w6, hi, g, e => by
    refine K168_33 hL (no (by rw [nI_ltI (by omega) (by omega)]; omega) (no (by rw [nI_leI (by omega) (by omega)]; omega) ?_))
    refine k168i hL hp (by omega) (fun J2 w4 w5 w6 g2 e2 => k168 hL hp hn hQ j (i + 1) J2 w4 w5 w6 (by omega) (fun q hq => (g2 q hq).trans (g q hq)) e2) (i + 1) J1 _ _ (Nat.le_refl _) (fun _ _ => rfl) (fun h hh => ?_)
    rw [wmd_0 (fun _ _ => trivial)]; exact e h hh
theorem k168y {d : Nat} {Q : XQ} {S : XS} {I : XI} {J : XJ} {r : XR} {cu su p : Nat} {x1 x2 : Int32} {w4 w5 w6 : Value} (hL : LAY S r) (hK : ∀ J1, jf 2 J J1 → WR J1 2 (wys p 0) → xrun z0 (xcall d) Q 168 33 [.ref 1, .int x1, .int x2, .int (nI 1), w4, w5, w6] [] S I J1 r cu su) :
    ∀ j i J1, i + j = 16 → 1 ≤ i → jf 2 J J1 → J1 2 0 = lN 1 → (∀ h, 1 ≤ h → h < i → J1 2 h = lN 0) → xrun z0 (xcall d) Q 168 9 [.ref 1, .int x1, .int x2, .int (nI i), w4, w5, w6] [] S I J1 r cu su
  | 0, i, J1, hi, h1, g, e0, e => by
    have e1 : i = 16 := by omega
    subst e1
    refine K168_9 hL (yes (Int32.le_refl _) (hK J1 g (fun h hh => ?_)))
    cases h with
    | zero => exact e0
    | succ h => exact e (h + 1) (by omega) hh
  | j + 1, i, J1, hi, h1, g, e0, e => by
    refine K168_9 hL (no (by rw [nI_leI (by omega) (by omega)]; omega) ⟨vp_in_nI (by omega) (by decide), ?_⟩)
    rw [nI_clamp (by omega), nI_add]
    refine k168y hL hK j (i + 1) _ (by omega) (by omega) g.u (by rw [up_i (by omega)]; exact e0) (fun h h2 h3 => ?_)
    by_cases q : h = i
    · subst q; rw [up_e]
    · rw [up_i q]; exact e h h2 (by omega)
theorem c168 {d : Nat} {Q : XQ} {S : XS} {I : XI} {J : XJ} {r : XR} {n p : Nat} (hL : LAY S r) (hp : p ≤ 16) (hn : n ≤ 15) (hQ : ∀ J1, jf 2 J J1 → WR J1 2 (wys p n) → Q none S I J1 r) : xcall (d + 1) 168 [.ref 1, .int (nI n), .int (nI p)] S I J r Q := by
  refine E168 hL (k168y (p := p) hL (fun J1 g e => k168 hL hp hn (fun J2 g2 e2 => hQ J2 (fun q hq => (g2 q hq).trans (g q hq)) e2) n 0 J1 _ _ _ (by omega) (fun _ _ => rfl) e) 15 1 _ (by omega) (by omega) ?_ ?_ (fun h h2 h3 => by omega))
  · exact (fun q hq => up_o hq)
  · rw [up_e]
theorem c35z {d : Nat} {Q : XQ} {S : XS} {I : XI} {J : XJ} {r : XR} {y : Int32} (hy : y.toInt < 1000000) (hQ : Q (some (.int (nI y.toInt.toNat))) S I J r) : xcall (d + 1) 35 [.int (nI 0), .int y] S I J r Q := by
  have z : (nI 0).toInt = 0 := rfl
  rcases nI_cases y with h | ⟨k, h1, h2, h3⟩
  · refine E35 (no (by rw [i_lt, z]; omega) ?_)
    rw [show y.toInt.toNat = 0 by omega] at hQ
    exact hQ
  · subst h2
    rw [h3, Int.toNat_natCast] at hQ
    refine c35 (by decide) h1 ?_
    rw [Nat.max_eq_right (Nat.zero_le _)]
    exact hQ
theorem sh_16 : ∀ n, n < 16 → (lN 1) <<< ((nI (4 * n)).toInt64 &&& 63) = lN (16 ^ n) := by decide +kernel
theorem k167 {d : Nat} {Q : XQ} {S : XS} {I : XI} {J : XJ} {r : XR} {cu su n p m : Nat} {w2 w3 : Value} (hL : LAY S r) (hn : n ≤ 15) (e : WR J 2 (wys p n)) (hQ : xcall (d + 2) 169 [.ref 1, .long (lN (otp n p m)), .long (lN 1 <<< ((nI 4 * nI n).toInt64 &&& 63))] S I J r (fun v S1 I1 J1 r1 => ∀ w2 w3 w5 x6, xrun z0 (xcall (d + 2)) Q 167 61 [.ref 1, .int (nI n), w2, w3, .long (lN (otp n p m)), w5, .int x6] (v.toList ++ []) S1 I1 J1 r1 cu su)) :
    ∀ j i w2 w3 w5, (i + j = n + 1 ∨ (j = 0 ∧ n < i)) → m ≤ i → i < 2000000 → (∀ q, m ≤ q → q < i → q ≤ n) → xrun z0 (xcall (d + 2)) Q 167 16 [.ref 1, .int (nI n), w2, w3, .long (lN (sm (wys p n) m (min i (n + 1)))), w5, .int (nI i)] [] S I J r cu su
  | 0, i, w2, w3, w5, hi, hm, hb, hq => by
    have h1 : n < i := by omega
    have e2 : sm (wys p n) m (min i (n + 1)) = otp n p m := by
      rw [Nat.min_eq_right (by omega)]
      exact (sm_cut (fun x hx => wys_0 n x (by omega)) 16 (by omega)).symm
    rw [e2]
    exact K167_16 hL (yes (by rw [nI_ltI (by omega) (by omega)]; exact h1) (xcall_imp (Nat.le_refl _) hQ (fun v S1 I1 J1 r1 h => h _ _ _ _)))
  | j + 1, i, w2, w3, w5, hi, hm, hb, hq => by
    have h1 : i ≤ n := by omega
    refine K167_16 hL (no (by rw [nI_ltI (by omega) (by omega)]; omega) (no (by rw [nI_leI (by omega) (by omega)]; omega) ⟨vp_in_nI (by omega) (by decide), ?_⟩))
    rw [nI_clamp (by omega), e i (by omega), lN_add, nI_add]
    have ih := k167 (w2 := w2) (w3 := w3) hL hn e hQ j (i + 1) w2 (xkp w3) (.float 0) (by omega) (by omega) (by omega) (fun q h2 h3 => by omega)
    rw [Nat.min_eq_left (by omega), sm, if_pos hm] at ih
    rw [Nat.min_eq_left (by omega)]
    exact ih
theorem sm_lo {f : Nat → Nat} {m : Nat} : ∀ n, n ≤ m → sm f m n = 0
  | 0, _ => rfl
  | n + 1, h => by rw [sm, sm_lo n (by omega), if_neg (by omega)]
/-- the class's odds: the ways and the fraction are new -/
theorem c167 {d : Nat} {Q : XQ} {S : XS} {I : XI} {J : XJ} {r : XR} {n p : Nat} {y : Int32} (hL : LAY S r) (hp : p ≤ 16) (hn : n ≤ 15) (hy : y.toInt < 1000000) (hQ : ∀ J1, (∀ q, q ≠ 2 → q ≠ 1 → J1 q = J q) → J1 1 0 = lN (otp n p y.toInt.toNat / Nat.gcd (otp n p y.toInt.toNat) (16 ^ n)) → J1 1 1 = lN (16 ^ n / Nat.gcd (otp n p y.toInt.toNat) (16 ^ n)) → Q none S I J1 r) : xcall (d + 3) 167 [.ref 1, .int (nI n), .int (nI p), .int y] S I J r Q := by
  refine E167 hL (c168 hL hp hn (fun J1 g e => K167_6 (c35z hy (K167_14 ?_))))
  generalize hm : y.toInt.toNat = m at *
  have key := k167 (d := d) (cu := 0) (su := 0) (Q := Q) (I := I) (w2 := .null) (w3 := .null) (m := m) hL hn e (by
    rw [pk_mul, sh_16 n (by omega)]
    have h1 := otp_le (m := m) hn hp
    have h2 := pow16 hn
    refine c169 hL (by omega) h2.1 h2.2 ?_
    intro w2 w3 w5 x6
    refine K167_61 (hQ _ (fun q q1 q2 => ?_) ?_ ?_)
    · rw [up_o q2, up_o q2]; exact g q q1
    · rw [up_i (by decide), up_e]
    · rw [up_e])
  have z : sm (wys p n) m (min m (n + 1)) = 0 := sm_lo _ (by omega)
  by_cases q : m ≤ n + 1
  · have := key (n + 1 - m) m (.int (nI p)) (.int y) (xkp (.long (lN 0))) (by omega) (Nat.le_refl _) (by omega) (fun q h1 h2 => by omega)
    rw [z] at this
    exact this
  · have := key 0 m (.int (nI p)) (.int y) (xkp (.long (lN 0))) (Or.inr ⟨rfl, by omega⟩) (Nat.le_refl _) (by omega) (fun q h1 h2 => by omega)
    rw [z] at this
    exact this
