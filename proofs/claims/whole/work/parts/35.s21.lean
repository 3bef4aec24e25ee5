/-! the reference's odds -/
theorem k333i {d : Nat} {Q : XQ} {S : XS} {I : XI} {J : XJ} {r : XR} {cu su p i : Nat} {x1 x2 : Int32} {w8 : Value} (hL : LAY S r) (hp : p ≤ 16) (hi : i < 15)
    (hK : ∀ J1 w5 w7, jf 74 J J1 → WR J1 74 (wys p (i + 1)) → xrun z0 (xcall d) Q 333 39 [.ref 65, .int x1, .int x2, .int (nI p), .long (lN (16 ^ (i + 1))), w5, .int (nI (i + 1)), w7, w8] [] S I J1 r cu su) :
    ∀ j J1 w5, j ≤ 15 → jf 74 J J1 → WR J1 74 (wmd p i (j + 1)) → xrun z0 (xcall d) Q 333 49 [.ref 65, .int x1, .int x2, .int (nI p), .long (lN (16 ^ i)), w5, .int (nI i), .int (nI j), w8] [] S I J1 r cu su
  | 0, J1, w5, hj, g, e => by
    refine K333_49 hL (yes (by decide) ?_)
    rw [nI_add, (p_l hp).1, e 0 (by decide), lN_mul, lN_mul, ← Nat.pow_succ]
    refine hK _ _ _ g.u (e.w ?_ (fun x hx h0 => ?_))
    · unfold wmd; rw [if_neg (by omega)]; rfl
    · unfold wmd; rw [if_pos (by omega)]
  | j + 1, J1, w5, hj, g, e => by
    refine K333_49 hL (no (nI_nle (by omega) (by omega)) ⟨vp_in_nI (by omega) (by decide), ?_⟩)
    rw [pk_sub (by omega), nI_clamp (by omega), nI_clamp (by omega), (p_l hp).1, (p_l hp).2, Nat.add_sub_cancel, e (j + 1) (by omega), e j (by omega), lN_mul, lN_mul, lN_add, pk_m1]
    refine ⟨vp_in_nI (by omega) (by decide), vp_in_nI (by omega) (by decide), k333i hL hp hi hK j _ _ (by omega) g.u (e.w ?_ (fun x hx h0 => ?_))⟩
    · rw [wmd_new]
      unfold wmd
      rw [if_neg (by omega), if_neg (by omega)]
    · unfold wmd
      by_cases q : j + 1 + 1 ≤ x
      · rw [if_pos q, if_pos (by omega)]
      · rw [if_neg q, if_neg (by omega)]
theorem k333n {d : Nat} {Q : XQ} {S : XS} {I : XI} {J : XJ} {r : XR} {cu su p n : Nat} {x2 : Int32} {w8 : Value} (hL : LAY S r) (hp : p ≤ 16) (hn : n ≤ 15)
    (hK : ∀ J1, jf 74 J J1 → WR J1 74 (wys p n) → xcall d 35 [.int (nI 0), .int x2] S I J1 r (fun v S1 I1 J1 r1 => ∀ w5 w7, xrun z0 (xcall d) Q 333 129 [.ref 65, .int (nI n), .int x2, .int (nI p), .long (lN (16 ^ n)), w5, .long (lN 0), w7, w8] (v.toList ++ []) S1 I1 J1 r1 cu su)) :
    ∀ j i J1 w5 w7, i + j = n → jf 74 J J1 → WR J1 74 (wys p i) → xrun z0 (xcall d) Q 333 39 [.ref 65, .int (nI n), .int x2, .int (nI p), .long (lN (16 ^ i)), w5, .int (nI i), w7, w8] [] S I J1 r cu su
  | 0, i, J1, w5, w7, hi, g, e => by
    have e1 : i = n := by omega
    subst e1
    exact K333_39 (yes (Int32.le_refl _) (xcall_imp (Nat.le_refl _) (hK J1 g e) (fun v S1 I1 J1 r1 h => h _ _)))
  | j + 1, i, J1, w5, w7, hi, g, e => by
    refine K333_39 (no (by rw [nI_leI (by omega) (by omega)]; omega) ?_)
    refine k333i hL hp (by omega) (fun J2 w5 w7 g2 e2 => k333n hL hp hn hK j (i + 1) J2 w5 w7 (by omega) (fun q hq => (g2 q hq).trans (g q hq)) e2) 15 J1 _ (Nat.le_refl _) (fun _ _ => rfl) (fun h hh => ?_)
    rw [e h hh]
    congr 1
    unfold wmd
    rw [if_neg (by omega)]
theorem k333z {d : Nat} {Q : XQ} {S : XS} {I : XI} {J : XJ} {r : XR} {cu su p : Nat} {x1 x2 x3 : Int32} {w7 w8 : Value} (hL : LAY S r) (hK : ∀ J1 w5, jf 74 J J1 → WR J1 74 (wys p 0) → xrun z0 (xcall d) Q 333 39 [.ref 65, .int x1, .int x2, .int x3, .long (lN 1), w5, .int (nI 0), w7, w8] [] S I J1 r cu su) :
    ∀ j i J1 w5, i + j = 16 → jf 74 J J1 → (∀ h, h < i → J1 74 h = lN (wys p 0 h)) → xrun z0 (xcall d) Q 333 6 [.ref 65, .int x1, .int x2, .int x3, .long (lN 1), w5, .int (nI i), w7, w8] [] S I J1 r cu su
  | 0, i, J1, w5, hi, g, e => by
    have e1 : i = 16 := by omega
    subst e1
    exact K333_6 hL (yes (by decide) (hK J1 _ g e))
  | j + 1, i, J1, w5, hi, g, e => by
    refine K333_6 hL (no (by rw [nI_ltI (by omega) (by omega)]; omega) ?_)
    by_cases q : i = 0
    · subst q
      refine nno rfl ⟨vp_in_nI (by omega) (by decide), ?_⟩
      rw [nI_clamp (by omega), nI_add]
      refine k333z hL hK j 1 _ _ (by omega) g.u (fun h hh => ?_)
      have : h = 0 := by omega
      subst this; rw [up_e]; rfl
    · refine yes (nI_ne0 (by omega) (by omega)) ⟨vp_in_nI (by omega) (by decide), ?_⟩
      rw [nI_clamp (by omega), nI_add]
      refine k333z hL hK j (i + 1) _ _ (by omega) g.u (fun h hh => ?_)
      by_cases q2 : h = i
      · subst q2; rw [up_e]
        cases h with
        | zero => exact absurd rfl q
        | succ h => rfl
      · rw [up_i q2]; exact e h (by omega)
theorem k333s {d : Nat} {Q : XQ} {S : XS} {I : XI} {J : XJ} {r : XR} {cu su n p m : Nat} {x1 x2 : Int32} (hL : LAY S r) (e : WR J 74 (wys p n)) (hK : xcall (d + 2) 334 [.ref 65, .long (lN (otp n p m)), .long (lN (16 ^ n))] S I J r (fun v S1 I1 J1 r1 => ∀ w5 w7 x8, xrun z0 (xcall (d + 2)) Q 333 164 [.ref 65, .int x1, .int x2, .int (nI p), .long (lN (16 ^ n)), w5, .long (lN (otp n p m)), w7, .int x8] (v.toList ++ []) S1 I1 J1 r1 cu su)) :
    ∀ j i w5 w7, (i + j = 16 ∨ (j = 0 ∧ 16 ≤ i)) → m ≤ i → i < 2000000 → xrun z0 (xcall (d + 2)) Q 333 131 [.ref 65, .int x1, .int x2, .int (nI p), .long (lN (16 ^ n)), w5, .long (lN (sm (wys p n) m (min i 16))), w7, .int (nI i)] [] S I J r cu su
  | 0, i, w5, w7, hi, hm, hb => by
    rw [Nat.min_eq_right (by omega)]
    exact K333_131 hL (yes (by rw [nI_ltI (by omega) (by omega)]; omega) (xcall_imp (Nat.le_refl _) hK (fun v S1 I1 J1 r1 h => h _ _ _)))
  | j + 1, i, w5, w7, hi, hm, hb => by
    refine K333_131 hL (no (by rw [nI_ltI (by omega) (by omega)]; omega) ⟨vp_in_nI (by omega) (by decide), ?_⟩)
    rw [nI_clamp (by omega), e i (by omega), lN_add, nI_add]
    have ih := k333s hL e hK j (i + 1) (xkp w5) (.float 0) (by omega) (by omega) (by omega)
    rw [Nat.min_eq_left (by omega), sm, if_pos hm] at ih
    rw [Nat.min_eq_left (by omega)]
    exact ih
theorem r333 {d : Nat} {Q : XQ} {S : XS} {I : XI} {J : XJ} {r : XR} {n p : Nat} {y : Int32} (hL : LAY S r) (hp : p ≤ 16) (hn : n ≤ 15) (hy : y.toInt < 1000000) (hQ : ∀ J1, (∀ q, q ≠ 74 → q ≠ 65 → J1 q = J q) → (∀ i, i ≠ 2 → i ≠ 3 → J1 65 i = J 65 i) → J1 65 2 = lN (otp n p y.toInt.toNat / Nat.gcd (otp n p y.toInt.toNat) (16 ^ n)) → J1 65 3 = lN (16 ^ n / Nat.gcd (otp n p y.toInt.toNat) (16 ^ n)) → Q (some (.int 1)) S I J1 r) : xcall (d + 3) 333 [.ref 65, .int (nI n), .int y, .int (nI p)] S I J r Q := by
  refine E333 (k333z (d := d + 2) (p := p) hL (fun J1 w5 g e => k333n (d := d + 2) hL hp hn (fun J2 g2 e2 => c35z hy (fun w5 w7 => K333_129 ?_)) n 0 J1 _ _ (by omega) g e) 16 0 J _ (by omega) (fun _ _ => rfl) (fun h hh => by omega))
  generalize hm : y.toInt.toNat = m at *
  have key := k333s (d := d) (cu := 0) (su := 0) (Q := Q) (S := S) (r := r) (I := I) (x1 := nI n) (x2 := y) (m := m) hL e2 (by
    have h1 := otp_le (m := m) hn hp
    have h2 := pow16 hn
    refine r334 hL (by omega) h2.1 h2.2 ?_
    intro w5 w7 x8
    refine K333_164 ⟨Or.inr rfl, hQ _ (fun q q1 q2 => ?_) (fun i q1 q2 => ?_) ?_ ?_⟩
    · rw [up_o q2, up_o q2]; exact g2 q q1
    · rw [up_i q2, up_i q1, g2 65 (by decide)]
    · rw [up_i (by decide), up_e]
    · rw [up_e])
  by_cases q : m ≤ 16
  · have := key (16 - m) m w5 (xkp w7) (by omega) (Nat.le_refl _) (by omega)
    rw [Nat.min_eq_left q, sm_lo _ (Nat.le_refl _)] at this
    exact this
  · have := key 0 m w5 (xkp w7) (Or.inr ⟨rfl, by omega⟩) (Nat.le_refl _) (by omega)
    rw [Nat.min_eq_right (by omega), sm_lo _ (by omega)] at this
    exact this
/-! how many cells a patch has -/
theorem cntF_add (P : Nat → Bool) (a : Nat) : ∀ b, cntF P (a + b) = cntF P a + cntF (fun i => P (a + i)) b
  | 0 => rfl
  | b + 1 => by rw [← Nat.add_assoc, cntF, cntF_add P a b, cntF]; omega
theorem cntF_iv {lo p : Nat} : ∀ n, cntF (fun x => decide (lo ≤ x ∧ x < lo + p)) n = min n (lo + p) - min n lo
  | 0 => by simp [cntF]
  | n + 1 => by
    rw [cntF, cntF_iv n]
    by_cases h : lo ≤ n ∧ n < lo + p
    · rw [if_pos (by rw [decide_eq_true_eq]; exact h)]; omega
    · rw [if_neg (by rw [decide_eq_true_eq]; exact h)]; omega
theorem cntF_cg {P Q : Nat → Bool} : ∀ {n}, (∀ i, i < n → P i = Q i) → cntF P n = cntF Q n
  | 0, _ => rfl
  | n + 1, h => by rw [cntF, cntF, cntF_cg (fun i hi => h i (by omega)), h n (by omega)]
theorem cntF_no {n : Nat} : cntF (fun _ => false) n = 0 := by
  induction n with
  | zero => rfl
  | succ n ih => rw [cntF, ih]; rfl
theorem cnt_rect {W lo p t q : Nat} (hW : 1 ≤ W) (hp : lo + p ≤ W) : ∀ h, cntF (fun c => decide (lo ≤ c % W ∧ c % W < lo + p ∧ t ≤ c / W ∧ c / W < t + q)) (W * h) = p * (min h (t + q) - min h t)
  | 0 => by simp [cntF]
  | h + 1 => by
    rw [Nat.mul_succ, cntF_add, cnt_rect hW hp h]
    have e : ∀ i, i < W → (W * h + i) % W = i ∧ (W * h + i) / W = h := fun i hi => by
      constructor
      · rw [Nat.mul_add_mod]; exact Nat.mod_eq_of_lt hi
      · rw [Nat.mul_add_div (by omega), Nat.div_eq_of_lt hi, Nat.add_zero]
    by_cases hr : t ≤ h ∧ h < t + q
    · rw [cntF_cg (Q := fun x => decide (lo ≤ x ∧ x < lo + p)) (fun i hi => by
        rw [(e i hi).1, (e i hi).2, decide_eq_decide]
        constructor
        · rintro ⟨h1, h2, _, _⟩; exact ⟨h1, h2⟩
        · rintro ⟨h1, h2⟩; exact ⟨h1, h2, hr.1, hr.2⟩), cntF_iv]
      rw [show min (h + 1) (t + q) - min (h + 1) t = (min h (t + q) - min h t) + 1 by omega, Nat.mul_succ]
      congr 1
      omega
    · rw [cntF_cg (Q := fun _ => false) (fun i hi => by
        rw [(e i hi).1, (e i hi).2, decide_eq_false_iff_not]
        rintro ⟨_, _, h1, h2⟩; exact hr ⟨h1, h2⟩), cntF_no]
      rw [show min (h + 1) (t + q) - min (h + 1) t = min h (t + q) - min h t by omega, Nat.add_zero]
theorem ct_pat {B : Nat → Int32} (h : WF B) {k : Nat} (hk : k < bn B 3) : ctN (pat B k) 32 = bn B (43 + k) * bn B (49 + k) := by
  have hb := h.br hk
  have ht := h.tl hk
  have h1 := ct_fc h (x := pat B k) (P := inP B k) (fun i hi => by
    rw [bt_pat h hk hi]
    exact ⟨fun q => ⟨inP_lt h hk q, q⟩, fun q => q.2⟩)
  rw [h1]
  have h2 := cnt_rect (W := bn B 0) (lo := bn B (37 + k) % bn B 0) (p := bn B (43 + k)) (t := bn B (37 + k) / bn B 0) (q := bn B (49 + k)) h.w.2.1 hb.2.2 (bn B 1)
  rw [show cntF (inP B k) (ce B) = cntF (fun c => decide (bn B (37 + k) % bn B 0 ≤ c % bn B 0 ∧ c % bn B 0 < bn B (37 + k) % bn B 0 + bn B (43 + k) ∧ bn B (37 + k) / bn B 0 ≤ c / bn B 0 ∧ c / bn B 0 < bn B (37 + k) / bn B 0 + bn B (49 + k))) (bn B 0 * bn B 1) from rfl, h2]
  congr 1
  have := ht.2.2
  generalize bn B (37 + k) / bn B 0 = T at *
  omega
/-! the calls that tell a fraction -/
def FC (Q : XQ) (S : XS) (I : XI) (J : XJ) (r : XR) (s : Nat) (v : Int32) (A D : Int64) : Prop := ∀ I' J', ix I I' → I' 0 13 = nI s → (∀ q, q ≠ 2 → q ≠ 1 → J' q = J q) → J' 1 0 = A → J' 1 1 = D → Q (some (.int v)) S I' J' r
def FM' (Q : XQ) (S : XS) (I : XI) (J : XJ) (r : XR) (s : Nat) (v : Int32) (A D : Int64) : Prop := ∀ I' J', ix I I' → I' 0 13 = I 0 13 → I' 65 0 = nI s → (∀ q, q ≠ 74 → q ≠ 65 → J' q = J q) → J' 65 2 = A → J' 65 3 = D → Q (some (.int v)) S I' J' r
theorem FC.e {Q : XQ} {S : XS} {I : XI} {J : XJ} {r : XR} {s : Nat} {v : Int32} (h : FC Q S I J r s v (J 1 0) (J 1 1)) : Q (some (.int v)) S (up2 I 0 13 (nI s)) J r := h _ _ ((ix.r I).u rfl) up_e (fun _ _ _ => rfl) rfl rfl
theorem FC.o {Q : XQ} {S : XS} {I : XI} {J J1 : XJ} {r : XR} {s : Nat} {v : Int32} {A D : Int64} (h : FC Q S I J r s v A D) (h1 : ∀ q, q ≠ 2 → q ≠ 1 → J1 q = J q) (h2 : J1 1 0 = A) (h3 : J1 1 1 = D) : Q (some (.int v)) S (up2 I 0 13 (nI s)) J1 r := h _ _ ((ix.r I).u rfl) up_e h1 h2 h3
theorem FM'.r {Q : XQ} {S : XS} {I : XI} {J : XJ} {r : XR} {s : Nat} {v : Int32} (h : FM' Q S I J r s v (J 65 2) (J 65 3)) : Q (some (.int v)) S (up2 (m2 I) 65 0 (nI s)) J r := h _ _ ((m2.ix I).u rfl) rfl up_e (fun _ _ _ => rfl) rfl rfl
/-- of an odds: the two numbers -/
def frT (t b : Nat) : Int64 × Int64 := (lN (t / Nat.gcd t b), lN (b / Nat.gcd t b))
def f171 (B : Nat → Int32) (A D : Int64) (x y : Int32) : Nat × Int32 × Int64 × Int64 := if okx x (bn B 3) then (if okr y 0 15 then (0, 1, frT (otp (ctN (shown B (cl x) &&& rset B) 30) (bn B 4) y.toInt.toNat) (16 ^ ctN (shown B (cl x) &&& rset B) 30)) else (5, 0, A, D)) else (2, 0, A, D)
theorem ct_rs {B : Nat → Int32} (h : WF B) {x : Int32} : ctN (x &&& rset B) 32 = ctN (x &&& rset B) 30 ∧ ctN (x &&& rset B) 30 ≤ 15 := by
  have hN := ce_le h
  have hb := h.r.2
  have hin : ∀ i, i < 32 → bt (x &&& rset B) i = true → i < ce B := fun i hi hq => by
    rw [b_and, Bool.and_eq_true] at hq
    exact rs_in h i hi hq.2
  refine ⟨ct_in (n := ce B) (by omega) hin, ?_⟩
  have key : ∀ n, n ≤ bn B 2 → ∀ y : Int32, (∀ i, i < 32 → bt y i = true → ∃ q, q < n ∧ bn B (7 + q) = i) → ctN y 30 ≤ n := by
    intro n
    induction n with
    | zero =>
      intro _ y hy
      have : y = 0 := and_z.mpr (fun i hi => by
        rw [← Bool.not_eq_true]; intro q
        obtain ⟨q1, h1, _⟩ := hy i hi q
        omega)
      rw [this, ct_0]; exact Nat.le_refl _
    | succ n ih =>
      intro hn y hy
      have hc := h.cl (r := n) (by omega)
      have h1 := ih (by omega) (y &&& (bi (bn B (7 + n)) ^^^ (-1 : Int32))) (fun i hi hq => by
        rw [b_and, Bool.and_eq_true, bt_not hi, Bool.not_eq_true', ← Bool.not_eq_true, bt_bi (by omega) hi] at hq
        obtain ⟨q1, h2, h3⟩ := hy i hi hq.1
        rcases Nat.lt_or_ge q1 n with h4 | h4
        · exact ⟨q1, h4, h3⟩
        · have : q1 = n := by omega
          subst this; exact absurd h3.symm hq.2)
      by_cases hb1 : bt y (bn B (7 + n)) = true
      · have e : y = (y &&& (bi (bn B (7 + n)) ^^^ (-1 : Int32))) ||| bi (bn B (7 + n)) := b_same (fun i hi => by
          rw [bt_orb (by omega) hi, b_and, Bool.and_eq_true, bt_not hi, Bool.not_eq_true', ← Bool.not_eq_true, bt_bi (by omega) hi]
          constructor
          · intro q
            by_cases e : i = bn B (7 + n)
            · exact Or.inr e
            · exact Or.inl ⟨q, e⟩
          · rintro (q | q)
            · exact q.1
            · rw [q]; exact hb1)
        rw [e, ct_or1 (by rw [b_and, bt_not (by omega), (bt_bi (by omega) (by omega)).mpr rfl]; simp) (by omega) 30 (by decide)]
        split <;> omega
      · have e : y = (y &&& (bi (bn B (7 + n)) ^^^ (-1 : Int32))) := b_same (fun i hi => by
          rw [b_and, Bool.and_eq_true, bt_not hi, Bool.not_eq_true', ← Bool.not_eq_true, bt_bi (by omega) hi]
          constructor
          · intro q
            refine ⟨q, fun e => ?_⟩
            rw [e] at q; exact hb1 q
          · intro q; exact q.1)
        rw [e]; omega
  have := key (bn B 2) (Nat.le_refl _) (x &&& rset B) (fun i hi hq => by
    rw [b_and, Bool.and_eq_true, bt_rset h hi] at hq
    exact hq.2)
  omega
theorem c171 {d : Nat} {Q : XQ} {S : XS} {I : XI} {J : XJ} {r : XR} {x y : Int32} {B : Nat → Int32} {W : Nat → Int64} (hL : LAY S r) (c : CR I J 28 B W) (hQ : FC Q S I J r (f171 B (J 1 0) (J 1 1) x y).1 (f171 B (J 1 0) (J 1 1) x y).2.1 (f171 B (J 1 0) (J 1 1) x y).2.2.1 (f171 B (J 1 0) (J 1 1) x y).2.2.2) : xcall (d + 4) 171 [.ref 0, .int x, .int y] S I J r Q := by
  have hb := c.wf.c.2
  unfold f171 at hQ
  refine E171 hL (c72 (lay0_28 hL) c.n7 (by omega) (fun k h1 h2 => K171_8 hL (yes (by decide) (c101 (fun h3 h4 => ?_) (fun h => ?_)))) (fun h => ?_))
  · have z0' : (nI 0).toInt = 0 := rfl
    have z15 : (nI 15).toInt = 15 := rfl
    have hy : okr y 0 15 := ⟨by omega, by omega⟩
    rw [if_pos (by rw [h2]; exact okx_nI h1 (by omega)), if_pos hy] at hQ
    subst h2
    rw [cl_nI (by omega)] at hQ
    have ho := c.wf.o
    have hr := ct_rs c.wf (x := shown B k)
    refine K171_24 hL (yes (by decide) (c105 (lay0_28 hL) c h1 (K171_41 hL (c99 (lay0_28 hL) c (K171_48 (c78 (K171_52 hL ?_)))))))
    rw [c.n2, hr.1]
    exact c167 hL ho.2 hr.2 (by omega) (fun J1 g e1 e2 => K171_69 hL (E19 hL (nno rfl (K171_74 ⟨Or.inr rfl, hQ.o g e1 e2⟩))))
  · rw [if_pos (by rw [h2]; exact okx_nI h1 (by omega)), if_neg (by exact h)] at hQ
    exact K171_24 hL (nno rfl (E19 hL (yes (by decide) (K171_32 ⟨Or.inl rfl, hQ.e⟩))))
  · rw [if_neg h] at hQ
    exact K171_8 hL (nno rfl (E19 hL (yes (by decide) (K171_16 ⟨Or.inl rfl, hQ.e⟩))))
theorem r336 {d : Nat} {Q : XQ} {S : XS} {I : XI} {J : XJ} {r : XR} {x y : Int32} (hL : LAY S r) (w : WF (I 70)) (hQ : FM' Q S I J r (f171 (I 70) (J 65 2) (J 65 3) x y).1 (f171 (I 70) (J 65 2) (J 65 3) x y).2.1 (f171 (I 70) (J 65 2) (J 65 3) x y).2.2.1 (f171 (I 70) (J 65 2) (J 65 3) x y).2.2.2) : xcall (d + 4) 336 [.ref 65, .int x, .int y] S I J r Q := by
  have hb := w.c.2
  unfold f171 at hQ
  refine E336 hL (r269 hL w (fun h1 h2 => K336_15 hL (yes (by decide) (c221 (fun h3 h4 => ?_) (fun h => ?_)))) (fun h => ?_))
  · have z0' : (lN 0).toInt = 0 := rfl
    have z15 : (lN 15).toInt = 15 := rfl
    rw [i_l] at h3 h4
    have hx : okx x (bn (I 70) 3) := ⟨h1, h2⟩
    have hy : okr y 0 15 := ⟨by omega, by omega⟩
    rw [if_pos hx, if_pos hy] at hQ
    obtain ⟨k1, k2⟩ := okx_cl hx
    generalize cl x = k at *
    subst k2
    have ho := w.o
    have hr := ct_rs w (x := shown (I 70) k)
    refine K336_33 hL (no (by decide) (r272 hL w k1 (K336_42 hL (r263 hL w (K336_46 (c282 (K336_50 hL ?_)))))))
    show xcall _ 333 [.ref 65, .int (nI (ctN (shown (I 70) k &&& rset (I 70)) 30)), .int y, .int (I 70 4)] S (m2 I) J r _
    rw [ho.1]
    exact r333 hL ho.2 hr.2 (by omega) (fun J1 g _ e1 e2 => K336_60 (K336_68 ⟨Or.inr rfl, hQ _ _ (m2.ix I) rfl rfl g e1 e2⟩))
  · rw [i_l] at h
    rw [if_pos ⟨h1, h2⟩, if_neg (by exact h)] at hQ
    exact K336_33 hL (yes rfl (E195 hL (K336_68 ⟨Or.inl rfl, hQ.r⟩)))
  · rw [if_neg (by exact h)] at hQ
    exact K336_15 hL (nno rfl (E195 hL (K336_23 ⟨Or.inl rfl, hQ.r⟩)))
def f172 (B : Nat → Int32) (A D : Int64) (x : Int32) : Nat × Int32 × Int64 × Int64 := if okx x (bn B 3) then (0, 1, frT (ctN (shown B (cl x)) 30) (bn B (43 + cl x) * bn B (49 + cl x))) else (2, 0, A, D)
theorem c172 {d : Nat} {Q : XQ} {S : XS} {I : XI} {J : XJ} {r : XR} {x : Int32} {B : Nat → Int32} {W : Nat → Int64} (hL : LAY S r) (c : CR I J 28 B W) (hQ : FC Q S I J r (f172 B (J 1 0) (J 1 1) x).1 (f172 B (J 1 0) (J 1 1) x).2.1 (f172 B (J 1 0) (J 1 1) x).2.2.1 (f172 B (J 1 0) (J 1 1) x).2.2.2) : xcall (d + 4) 172 [.ref 0, .int x] S I J r Q := by
  have hb := c.wf.c.2
  have hN := ce_le c.wf
  unfold f172 at hQ
  refine E172 hL (c72 (lay0_28 hL) c.n7 (by omega) (fun k h1 h2 => ?_) (fun h => ?_))
  · rw [if_pos (by rw [h2]; exact okx_nI h1 (by omega))] at hQ
    subst h2
    rw [cl_nI (by omega)] at hQ
    have l1 := ctN_le (shown B k) 30
    have hp := ct_pat c.wf h1
    have l2 := ctN_le (pat B k) 32
    have hpos : 0 < bn B (43 + k) * bn B (49 + k) := Nat.mul_pos (c.wf.br h1).2.1 (c.wf.tl h1).2.1
    refine K172_8 hL (yes (by decide) (c105 (lay0_28 hL) c h1 (K172_25 (c78 (K172_28 hL ⟨vp_in_nI (by omega) (by decide), ?_⟩)))))
    rw [nI_clamp (by omega), c.pt h1, ct_in (n := ce B) (by omega) (sw_in c.wf h1), nI_l (by omega)]
    refine c78 (K172_47 hL ?_)
    rw [nI_l (by omega), hp]
    refine c169 hL (by omega) (by omega) hpos (K172_51 hL (E19 hL (nno rfl (K172_56 ⟨Or.inr rfl, hQ.o (fun q q1 q2 => ?_) ?_ ?_⟩))))
    · rw [up_o q2, up_o q2]
    · rw [up_i (by decide), up_e]; rfl
    · rw [up_e]; rfl
  · rw [if_neg h] at hQ
    exact K172_8 hL (nno rfl (E19 hL (yes (by decide) (K172_16 ⟨Or.inl rfl, hQ.e⟩))))
theorem r337 {d : Nat} {Q : XQ} {S : XS} {I : XI} {J : XJ} {r : XR} {x : Int32} (hL : LAY S r) (w : WF (I 70)) (hQ : FM' Q S I J r (f172 (I 70) (J 65 2) (J 65 3) x).1 (f172 (I 70) (J 65 2) (J 65 3) x).2.1 (f172 (I 70) (J 65 2) (J 65 3) x).2.2.1 (f172 (I 70) (J 65 2) (J 65 3) x).2.2.2) : xcall (d + 4) 337 [.ref 65, .int x] S I J r Q := by
  have hb := w.c.2
  unfold f172 at hQ
  refine E337 hL (r269 hL w (fun h1 h2 => ?_) (fun h => ?_))
  · have hx : okx x (bn (I 70) 3) := ⟨h1, h2⟩
    rw [if_pos hx] at hQ
    obtain ⟨k1, k2⟩ := okx_cl hx
    generalize cl x = k at *
    subst k2
    have l1 := ctN_le (shown (I 70) k) 30
    have h4 := w.br k1
    have h5 := w.tl k1
    have h6 := w.w
    have h7 := w.h
    have m1 : bn (I 70) (43 + k) ≤ 6 := by have := Nat.le_trans (Nat.le_add_left _ _) h4.2.2; omega
    have m2' : bn (I 70) (49 + k) ≤ 5 := by have := Nat.le_trans (Nat.le_add_left _ _) h5.2.2; omega
    have l2 : bn (I 70) (43 + k) * bn (I 70) (49 + k) ≤ 30 := Nat.le_trans (Nat.mul_le_mul m1 m2') (by decide)
    have hpos : 0 < bn (I 70) (43 + k) * bn (I 70) (49 + k) := Nat.mul_pos h4.2.1 h5.2.1
    refine K337_15 hL (no (by decide) (r272 hL w k1 (K337_24 (c282 (K337_27 hL ?_)))))
    show vp_in (nI 43 + nI k) 1725 ∧ vp_in (nI 49 + nI k) 1725 ∧ xcall _ 334 [.ref 65, .long (nI (ctN (shown (I 70) k) 30)).toInt64, .long (I 70 (nI 43 + nI k).toNatClampNeg * I 70 (nI 49 + nI k).toNatClampNeg).toInt64] S (m2 I) J r _
    rw [nI_add, nI_add, nI_clamp (by omega), nI_clamp (by omega), h4.1, h5.1, pk_mul, nI_l (by omega), nI_l (by omega)]
    refine ⟨vp_in_nI (by omega) (by decide), vp_in_nI (by omega) (by decide), r334 hL (by omega) (by omega) hpos (K337_51 (K337_59 ⟨Or.inr rfl, hQ _ _ (m2.ix I) rfl rfl (fun q q1 q2 => ?_) ?_ ?_⟩))⟩
    · rw [up_o q2, up_o q2]
    · rw [up_i (by decide), up_e]; rfl
    · rw [up_e]; rfl
  · rw [if_neg (by exact h)] at hQ
    exact K337_15 hL (yes rfl (E195 hL (K337_59 ⟨Or.inl rfl, hQ.r⟩)))
/-! infant -/
def ptr (B : Nat → Int32) (k : Nat) : Int32 := pat B k &&& rset B
def f166 (B : Nat → Int32) (A D : Int64) (x y z : Int32) : Nat × Int32 × Int64 × Int64 := if tw B x y ≠ 0 then (tw B x y, 0, A, D) else if okr z 0 15 then (0, 1, frT (otp (ctN (ptr B (cl x) ^^^ ptr B (cl y)) 30) 8 (z - nI (ctN (ptr B (cl x) &&& ptr B (cl y)) 30)).toInt.toNat) (16 ^ ctN (ptr B (cl x) ^^^ ptr B (cl y)) 30)) else (5, 0, A, D)
theorem ptr_x {x y z : Int32} : (x &&& z) ^^^ (y &&& z) = (x ^^^ y) &&& z ∧ (x &&& z) &&& (y &&& z) = (x &&& y) &&& z := by
  constructor
  · apply b_ext
    intro i _
    simp only [b_and, b_xor]
    cases bt x i <;> cases bt y i <;> cases bt z i <;> rfl
  · apply b_ext
    intro i _
    simp only [b_and]
    cases bt x i <;> cases bt y i <;> cases bt z i <;> rfl
theorem sub_sm {z : Int32} {n : Nat} (h : okr z 0 15) (hn : n ≤ 30) : (z - nI n).toInt < 1000000 := by
  obtain ⟨p1, p2, p3⟩ := okr_cl (lo := 0) (hi := 15) h (by decide)
  rw [p3, i_subI (by omega) (by omega)]
  omega
theorem c166 {d : Nat} {Q : XQ} {S : XS} {I : XI} {J : XJ} {r : XR} {x y z : Int32} {B : Nat → Int32} {W : Nat → Int64} (hL : LAY S r) (c : CR I J 28 B W) (hQ : FC Q S I J r (f166 B (J 1 0) (J 1 1) x y z).1 (f166 B (J 1 0) (J 1 1) x y z).2.1 (f166 B (J 1 0) (J 1 1) x y z).2.2.1 (f166 B (J 1 0) (J 1 1) x y z).2.2.2) : xcall (d + 4) 166 [.ref 0, .int x, .int y, .int z] S I J r Q := by
  have hb := c.wf.c.2
  have z0' : (nI 0).toInt = 0 := rfl
  have z15 : (nI 15).toInt = 15 := rfl
  unfold f166 tw at hQ
  refine E166 hL (c72 (lay0_28 hL) c.n7 (by omega) (fun k h1 h2 => K166_8 hL (no (by decide) (c72 (lay0_28 hL) c.n7 (by omega) (fun m h3 h4 => K166_19 hL (yes (by decide) ?_)) (fun h => ?_)))) (fun h => ?_))
  · have hxy : okx x (bn B 3) ∧ okx y (bn B 3) := ⟨by rw [h2]; exact okx_nI h1 (by omega), by rw [h4]; exact okx_nI h3 (by omega)⟩
    rw [if_pos hxy] at hQ
    by_cases e : x = y
    · rw [if_pos e, if_pos (by decide)] at hQ
      exact yes e (E19 hL (yes (by decide) (K166_48 ⟨Or.inl rfl, hQ.e⟩)))
    · rw [if_neg e, if_neg (fun q => q rfl)] at hQ
      refine no e (c101 (fun h5 h6 => K166_40 hL (yes (by decide) ?_)) (fun h => K166_40 hL (nno rfl ?_)))
      · have hz : okr z 0 15 := ⟨by omega, by omega⟩
        rw [if_pos hz] at hQ
        subst h2 h4
        rw [cl_nI (by omega), cl_nI (by omega)] at hQ
        have hr1 := ct_rs c.wf (x := pat B k ^^^ pat B m)
        have hr2 := ct_rs c.wf (x := pat B k &&& pat B m)
        have l1 := ctN_le ((pat B k &&& pat B m) &&& rset B) 30
        refine ⟨vp_in_nI (by omega) (by decide), ?_⟩
        rw [nI_clamp (by omega), c.pt h1]
        refine c99 (lay0_28 hL) c (K166_65 hL ⟨vp_in_nI (by omega) (by decide), ?_⟩)
        rw [nI_clamp (by omega), c.pt h3]
        refine c99 (lay0_28 hL) c (K166_84 (c78 (K166_95 hL (c78 (K166_109 hL ?_)))))
        unfold ptr at hQ
        rw [ptr_x.1, ptr_x.2, hr1.1, hr2.1]
        rw [ptr_x.1, ptr_x.2] at hQ
        exact c167 hL (by decide) hr1.2 (sub_sm hz l1) (fun J1 g e1 e2 => K166_118 hL (E19 hL (nno rfl (K166_123 ⟨Or.inr rfl, hQ.o g e1 e2⟩))))
      · rw [if_neg (by exact h)] at hQ
        exact E19 hL (yes (by decide) (K166_48 ⟨Or.inl rfl, hQ.e⟩))
  · rw [if_neg (c := okx x (bn B 3) ∧ okx y (bn B 3)) (fun q => h q.2), if_pos (by decide)] at hQ
    exact K166_19 hL (nno rfl (E19 hL (yes (by decide) (K166_27 ⟨Or.inl rfl, hQ.e⟩))))
  · rw [if_neg (c := okx x (bn B 3) ∧ okx y (bn B 3)) (fun q => h q.1), if_pos (by decide)] at hQ
    exact K166_8 hL (yes rfl (E19 hL (yes (by decide) (K166_27 ⟨Or.inl rfl, hQ.e⟩))))
theorem r332 {d : Nat} {Q : XQ} {S : XS} {I : XI} {J : XJ} {r : XR} {x y z : Int32} (hL : LAY S r) (w : WF (I 70)) (hQ : FM' Q S I J r (f166 (I 70) (J 65 2) (J 65 3) x y z).1 (f166 (I 70) (J 65 2) (J 65 3) x y z).2.1 (f166 (I 70) (J 65 2) (J 65 3) x y z).2.2.1 (f166 (I 70) (J 65 2) (J 65 3) x y z).2.2.2) : xcall (d + 4) 332 [.ref 65, .int x, .int y, .int z] S I J r Q := by
  have hb := w.c.2
  have z0' : (lN 0).toInt = 0 := rfl
  have z15 : (lN 15).toInt = 15 := rfl
  have ht : tw (I 70) x y < 6 := by unfold tw; split; split <;> omega; omega
  have i1 : ix I (up2 I 65 1 (nI 0)) := (ix.r I).u rfl
  unfold f166 at hQ
  refine E332 hL (r315 hL w ?_)
  show xrun z0 _ Q 332 12 [_, _, _, _, _, _] [.int (nI (tw (I 70) x y)), .ref 65] S (up2 I 65 1 (nI 0)) J r _ _
  refine K332_12 hL ?_
  by_cases e : tw (I 70) x y = 0
  · rw [if_neg (fun q => q e)] at hQ
    refine yes ((up_le0 (by omega)).mpr e) ?_
    rw [e]
    have hxy : okx x (bn (I 70) 3) ∧ okx y (bn (I 70) 3) := by
      unfold tw at e
      split at e
      · assumption
      · cases e
    obtain ⟨k1, k2⟩ := okx_cl hxy.1
    obtain ⟨m1, m2'⟩ := okx_cl hxy.2
    refine c221 (fun h3 h4 => K332_33 hL (yes (by decide) ?_)) (fun h => K332_33 hL (nno rfl ?_))
    · rw [i_l] at h3 h4
      have hz : okr z 0 15 := ⟨by omega, by omega⟩
      rw [if_pos hz] at hQ
      generalize cl x = k at *
      generalize cl y = m at *
      subst k2 m2'
      have hr1 := ct_rs w (x := pat (I 70) k ^^^ pat (I 70) m)
      have l1 := ctN_le ((pat (I 70) k &&& pat (I 70) m) &&& rset (I 70)) 30
      unfold ptr at hQ
      rw [ptr_x.1, ptr_x.2] at hQ
      refine r270 hL w k1 (K332_47 hL (r270 hL w m1 (K332_52 hL (r263 hL w (K332_57 (c282 (K332_61 hL (r270 hL w k1 (K332_68 hL (r270 hL w m1 (K332_73 hL (r263 hL w (K332_78 (c282 (K332_82 hL ?_)))))))))))))))
      exact r333 hL (by decide) hr1.2 (sub_sm hz l1) (fun J1 g _ e1 e2 => K332_96 ⟨Or.inr rfl, hQ _ _ (i1.u rfl) rfl rfl g e1 e2⟩)
    · rw [i_l] at h
      rw [if_neg (by exact h)] at hQ
      exact E195 hL (K332_41 ⟨Or.inl rfl, hQ _ _ ((i1.u rfl).u rfl) rfl rfl (fun _ _ _ => rfl) rfl rfl⟩)
  · rw [if_pos e] at hQ
    exact no (fun q => e ((up_le0 (by omega)).mp q)) (hQ _ _ (i1.u rfl) rfl up_e (fun _ _ _ => rfl) rfl rfl)
