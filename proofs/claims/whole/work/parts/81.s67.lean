/-! the whole of a years' text -/
abbrev YR := Except (Nat × Nat) (Nat × Nat × YY)
def yMain (F : Nat → Int32) (n N c : Nat) (W : Nat → Int64) : Nat → Nat → Nat → Nat → YY → Nat → (Nat → Nat) → YR
  | 0, s, L, T, Y, q, _ => if q = 0 then .ok (L, T, Y) else .error (am F n s, s)
  | j + 1, s, L, T, Y, q, P =>
    if kd F n s = 0 then (if q = 0 then .ok (L, T, Y) else .error (am F n s, s))
    else if isW F n s kEnd = true then (if q = 0 then .error (am F n s, s) else if isC F n (nxt F n s) = true then yMain F n N c W j (nxt F n (nxt F n s)) (L + 1) T (yEnd Y L (P (q - 1))) (q - 1) P else .error (am F n (nxt F n s), nxt F n s))
    else match stp F n s with
      | none => .error (am F n s, s)
      | some k => if T = 30 then .error (6, s) else if (k = 8 ∨ k = 9) ∧ q = 3 then .error (7, s) else match qSem F n (yRest F n (nxt F n s) (yNew (clk k)) k N c W) with
        | .error e => .error e
        | .ok (s', y) => yMain F n N c W j s' (L + 1) (T + 1) (yPut Y L y) (qN k q) (pN k q L P)
def goodY (s0 n : Nat) (o : YO) : Prop := ∀ s y, o = .ok (s, y) → s0 ≤ s ∧ s ≤ n
theorem gy_e {s0 n : Nat} {e : Nat × Nat} : goodY s0 n (.error e) := fun _ _ h => by cases h
theorem gy_o {s0 n s : Nat} {y : Nat → Int32} (h1 : s0 ≤ s) (h2 : s ≤ n) : goodY s0 n (.ok (s, y)) := fun _ _ h => by cases h; exact ⟨h1, h2⟩
theorem gy_num {s0 n s lo hi : Nat} {F : Nat → Int32} {K : Nat → Nat → YO} (h1 : s0 ≤ s) (h2 : s ≤ n) (h : ∀ m s', s0 ≤ s' → s' ≤ n → goodY s0 n (K m s')) : goodY s0 n (qNum F n s lo hi K) := by
  have n1 := nxt_le (F := F) h2
  unfold qNum
  split
  · exact h _ _ (by omega) n1.2.1
  · exact gy_e
theorem gy_cou {s0 n s N : Nat} {F : Nat → Int32} {W : Nat → Int64} {K : Nat → Nat → YO} (h1 : s0 ≤ s) (h2 : s ≤ n) (h : ∀ m s', s0 ≤ s' → s' ≤ n → goodY s0 n (K m s')) : goodY s0 n (qCou F n s N W K) := by
  have n1 := nxt_le (F := F) h2
  unfold qCou
  split
  · exact gy_e
  · split
    · exact gy_e
    · exact h _ _ (by omega) n1.2.1
theorem gy_if {s0 n : Nat} {c : Prop} [Decidable c] {a b : YO} (h1 : goodY s0 n a) (h2 : goodY s0 n b) : goodY s0 n (if c then a else b) := by
  split
  · exact h1
  · exact h2
theorem gy_test {s0 n s N c : Nat} {F y : Nat → Int32} {W : Nat → Int64} (h1 : s0 ≤ s) (h2 : s ≤ n) : goodY s0 n (yTest F n s y N c W) := by
  have n1 := nxt_le (F := F) h2
  refine gy_if (gy_cou (by omega) n1.2.1 (fun m s1 a1 a2 => gy_num a1 a2 (fun m s2 b1 b2 => gy_o b1 b2))) (gy_if (gy_cou (by omega) n1.2.1 (fun m s1 a1 a2 => gy_if ?_ gy_e)) (gy_if (gy_cou (by omega) n1.2.1 (fun m s1 a1 a2 => gy_o a1 a2)) gy_e))
  have n2 := nxt_le (F := F) a2
  exact gy_num (by omega) n2.2.1 (fun m s2 b1 b2 => gy_o b1 b2)
theorem gy_rest {s0 n s N c k : Nat} {F y : Nat → Int32} {W : Nat → Int64} (h1 : s0 ≤ s) (h2 : s ≤ n) : goodY s0 n (yRest F n s y k N c W) := by
  refine gy_if (gy_cou h1 h2 (fun m s1 a1 a2 => gy_num a1 a2 (fun m s2 b1 b2 => gy_o b1 b2))) (gy_if (gy_num h1 h2 (fun m s2 b1 b2 => gy_o b1 b2)) (gy_if (gy_cou h1 h2 (fun m s1 a1 a2 => gy_o a1 a2)) (gy_if (gy_cou h1 h2 (fun m s1 a1 a2 => gy_num a1 a2 (fun m s2 b1 b2 => gy_o b1 b2))) (gy_if (gy_cou h1 h2 (fun m s1 a1 a2 => gy_num a1 a2 (fun m s2 b1 b2 => gy_num b1 b2 (fun m s3 c1 c2 => gy_num c1 c2 (fun m s4 d1 d2 => gy_o d1 d2))))) (gy_if (gy_test h1 h2) (gy_if (gy_num h1 h2 (fun m s2 b1 b2 => gy_o b1 b2)) (gy_o h1 h2)))))))
def REY (Q : XQ) (S : XS) (I : XI) (J : XJ) (r : XR) : YR → Prop
  | .error e => ∀ I' J', yf I I' → yj J J' → I' 16 8 = nI e.1 → I' 16 9 = nI e.2 → Q (some (.int (nI 0))) S I' J' r
  | .ok o => ∀ I' J', yf I I' → yj J J' → YA I' 57 o.1 o.2.1 o.2.2 → o.1 ≤ 60 → I' 16 8 = nI 0 → I' 16 9 = -1 → Q (some (.int (nI 1))) S I' J' r
theorem REY.x {Q : XQ} {S : XS} {I I1 : XI} {J J1 : XJ} {r : XR} {o : YR} (h : REY Q S I J r o) (k : yf I I1) (j : yj J J1) : REY Q S I1 J1 r o := by
  cases o with
  | error e => exact fun I' J' f1 f2 => h I' J' (k.t f1) (j.t f2)
  | ok o => exact fun I' J' f1 f2 => h I' J' (k.t f1) (j.t f2)
theorem REY.e {Q : XQ} {S : XS} {I : XI} {J : XJ} {r : XR} {k s : Nat} (h : REY Q S I J r (.error (k, s))) : Q (some (.int (nI 0))) S (up2 (up2 I 16 8 (nI k)) 16 9 (nI s)) J r :=
  h _ _ (((yf.r I).u (by omega)).u (by omega)) (yj.r J) (by rw [up_i (by decide), up_e]) up_e
theorem cl_le {k : Nat} (h : k ≤ 10) : clk k ≤ 11 ∧ (clk k = 11 ↔ k = 8) := by unfold clk; split <;> omega
theorem k85 {d : Nat} {Q : XQ} {S : XS} {r : XR} {n : Nat} {F B : Nat → Int32} {W : Nat → Int64} {w1 w2 : Value} (hL : LAY S r) (hn : n ≤ 900) : ∀ (j i s L T q cu su : Nat) (P : Nat → Nat) (I : XI) (J : XJ) (Y : YY) (w7 w8 : Value), i + j = 900 → s ≤ n → LT L T q P → SY I J n F s L T Y q P B W → REY Q S I J r (yMain F n (bn B 3) (ce B) W j s L T Y q P) → xrun z0 (xcall (d + 8)) Q 85 31 [.ref 15, w1, w2, .ref 28, .ref 57, .int (nI 1), .int (nI i), w7, w8] [] S I J r cu su := by
  intro j
  have h5 := lay5_16 hL
  have h7 := lay7_57 hL
  have stop : ∀ (I : XI) (J : XJ) (x : Int32) (w7 w8 : Value) (cu su : Nat), Q (some (.int (nI 0))) S I J r → xrun z0 (xcall (d + 8)) Q 85 31 [.ref 15, w1, w2, .ref 28, .ref 57, .int (nI 0), .int x, w7, w8] [] S I J r cu su := fun I J x w7 w8 cu su q => K85_31 hL ⟨fun _ => yes rfl q, fun _ => yes rfl (yes rfl q)⟩
  have fin : ∀ (s L T q i cu su : Nat) (P : Nat → Nat) (I : XI) (J : XJ) (Y : YY) (w7 w8 : Value), LT L T q P → SY I J n F s L T Y q P B W → REY Q S I J r (if q = 0 then .ok (L, T, Y) else .error (am F n s, s)) → (I 15 2 = 0 → Q (some (.int (nI 1))) S I J r) ∧ (¬ I 15 2 = 0 → xcall (d + 8) 55 [.ref 16] S I J r (fun v S1 I1 J1 r1 => xrun z0 (xcall (d + 8)) Q 85 187 [.ref 15, w1, w2, .ref 28, .ref 57, .int (nI 1), .int (nI i), w7, w8] (v.toList ++ []) S1 I1 J1 r1 cu su)) := fun s L T q i cu su P I J Y w7 w8 hb h hQ => by
    obtain ⟨b1, b2, b3, b4⟩ := hb
    rw [h.2.2.1, show (0 : Int32) = nI 0 from rfl, nI_eqI (by omega) (by decide)]
    by_cases q0 : q = 0
    · rw [if_pos q0] at hQ
      exact yes q0 (hQ I J (yf.r _) (yj.r _) h.2.1 (by show L ≤ 60; omega) h.2.2.2.2.1 h.2.2.2.2.2.1)
    · rw [if_neg q0] at hQ
      exact no q0 (c55 (d := d + 7) h5 h.1 (K85_187 (yes rfl (REY.e hQ))))
  induction j with
  | zero =>
    intro i s L T q cu su P I J Y w7 w8 hi hs hb h hQ
    have : i = 900 := by omega
    subst this
    rw [yMain] at hQ
    exact K85_31 hL (yes (by decide) (no (by decide) (fin s L T q 900 cu su P I J Y w7 w8 hb h hQ)))
  | succ j ih =>
    intro i s L T q cu su P I J Y w7 w8 hi hs hb h hQ
    have hb0 := hb
    obtain ⟨b1, b2, b3, b4⟩ := hb
    have n1 := nxt_le (F := F) hs
    have n2 := nxt_le (F := F) n1.2.1
    rw [yMain] at hQ
    refine K85_31 hL (no (by rw [nI_leI (by decide) (by omega)]; omega) (no (by decide) ?_))
    rw [h.1.2.2.2.1, show (0 : Int32) = nI 0 from rfl, nI_eqI (by have := kd_le (F := F) (n := n) (s := s); omega) (by decide)]
    by_cases q0 : kd F n s = 0
    · rw [if_pos q0] at hQ
      exact yes q0 (no (by decide) (fin s L T q i cu su P I J Y w7 w8 hb0 h hQ))
    rw [if_neg q0] at hQ
    -- a semicolon, then on
    have sm : ∀ (s1 L1 T1 q1 : Nat) (P1 : Nat → Nat) (I1 : XI) (J1 : XJ) (Y1 : YY) (w7 w8 : Value) (cu su : Nat), s1 ≤ n → LT L1 T1 q1 P1 → SY I1 J1 n F s1 L1 T1 Y1 q1 P1 B W → REY Q S I1 J1 r (if isC F n s1 = true then yMain F n (bn B 3) (ce B) W j (nxt F n s1) L1 T1 Y1 q1 P1 else .error (am F n s1, s1)) → ∀ x5, xcall (d + 8) 57 [.ref 16] S I1 J1 r (fun v S2 I2 J2 r2 => xrun z0 (xcall (d + 8)) Q 85 152 [.ref 15, w1, w2, .ref 28, .ref 57, .int x5, .int (nI i), w7, w8] (v.toList ++ []) S2 I2 J2 r2 cu su) := fun s1 L1 T1 q1 P1 I1 J1 Y1 w7 w8 cu su hs1 hb1 h1 hQ x5 => by
      refine c57 (d := d + 5) h5 hn hs1 h1.1 (fun e I' J' f1 f2 f3 => ?_) (fun e => ?_)
      · rw [if_pos e] at hQ
        refine K85_152 (no (by decide) ?_)
        rw [nI_add]
        exact ih (i + 1) _ _ _ _ _ _ _ _ _ _ _ _ (by omega) (nxt_le hs1).2.1 hb1 (h1.a f1 f2 f3) (hQ.x f1.yf f2.yj)
      · rw [if_neg (by rw [e]; decide)] at hQ
        exact K85_152 (yes rfl (stop _ _ _ _ _ _ _ (REY.e hQ)))
    refine no q0 (c40k (d := d + 3) h5 h.1 (k := 14) (K := kEnd) (by decide) (by decide +kernel) (fun e => K85_63 hL (no (by decide) ?_)) (fun e => K85_63 hL (yes rfl ?_)))
    · rw [if_pos e] at hQ
      refine c86 (d := d + 4) hL hn hs hb0 h (fun qz I' J' f1 f2 f3 f4 => ?_) (fun qz I' J' f1 f2 h1 => ?_)
      · rw [if_pos qz] at hQ
        exact K85_72 hL (yes rfl (stop _ _ _ _ _ _ _ (hQ I' J' f1 f2 f3 f4)))
      · rw [if_neg qz] at hQ
        exact K85_72 hL (no (by decide) (sm _ _ _ _ _ _ _ _ _ _ _ _ n1.2.1 ⟨by omega, by omega, by omega, fun j hj => by have := b4 j (by omega); omega⟩ h1 (hQ.x f1 f2) _))
    rw [if_neg (by rw [e]; decide)] at hQ
    refine c90 (a := 0) (d := d + 2) hL h.1 (K85_81 hL ?_)
    cases es : stp F n s with
    | none =>
      rw [es] at hQ
      have hQ : REY Q S I J r (.error (am F n s, s)) := hQ
      exact E91 (d := d + 7) (no (by decide) (yes (by decide) (K91_17 (d := d + 7) hL h7 (nno rfl (c55 (d := d + 6) h5 h.1 (K91_30 (K85_91 hL (yes rfl (yes rfl (stop _ _ _ _ _ _ _ (REY.e hQ)))))))))))
    | some k =>
      rw [es] at hQ
      have hk := (stp_s es).1
      dsimp only at hQ
      refine c91 (d := d + 5) (k := k) hL hn hs hb0 hk h (fun c hc I' J' f1 f2 f3 f4 => ?_) (fun hT hq I' J' f1 f2 h1 => ?_)
      · have er : REY Q S I J r (.error (c, s)) := by
          rcases hc with ⟨t, rfl⟩ | ⟨t, k8, q3, rfl⟩
          · rw [if_pos t] at hQ; exact hQ
          · rw [if_neg t, if_pos ⟨k8, q3⟩] at hQ; exact hQ
        exact K85_91 hL (yes rfl (yes rfl (stop _ _ _ _ _ _ _ (er I' J' f1 f2 f3 f4))))
      · rw [if_neg hT, if_neg hq] at hQ
        have hQ := hQ.x f1 f2
        have ckl := cl_le hk
        have hb2 : LT (L + 1) (T + 1) (qN k q) (pN k q L P) := by
          unfold qN pN
          by_cases o : k = 8 ∨ k = 9
          · rw [if_pos o, if_pos o]
            refine ⟨by omega, by omega, ?_, fun j hj => ?_⟩
            · rcases Nat.lt_or_ge q 3 with q2 | q2
              · omega
              · exact absurd ⟨o, by omega⟩ hq
            · show (if j = q then L else P j) < L + 1
              by_cases ej : j = q
              · rw [if_pos ej]; omega
              · rw [if_neg ej]; have := b4 j (by omega); omega
          · rw [if_neg o, if_neg o]
            exact ⟨by omega, by omega, b3, fun j hj => by have := b4 j hj; omega⟩
        refine K85_91 hL (no (nI_m1 (by omega)) ?_)
        rw [show clI (some k) = nI (clk k) from rfl, nI_eqI (by omega) (by decide), ckl.2]
        have gd := gy_rest (F := F) (s := nxt F n s) (y := yNew (clk k)) (k := k) (N := bn B 3) (c := ce B) (W := W) (Nat.le_refl _) n1.2.1
        by_cases k8 : k = 8
        · refine nno k8 (c92 (d := d) hL hn n1.2.1 (by omega) (by omega) h1 ?_)
          subst k8
          rw [yR8] at hQ gd
          cases eo : yTest F n (nxt F n s) (yNew (clk 8)) (bn B 3) (ce B) W with
          | error er =>
            rw [eo] at hQ
            exact fun I2 J2 a1 a2 a3 a4 => K85_115 hL (yes rfl (yes rfl (stop _ _ _ _ _ _ _ (hQ I2 J2 a1 a2 a3 a4))))
          | ok o =>
            obtain ⟨s2, y2⟩ := o
            rw [eo] at hQ
            have hs2 := (gd s2 y2 eo).2
            refine fun I2 J2 a1 a2 a3 => K85_115 hL (no (by decide) (no (by decide) (sm _ _ _ _ _ _ _ _ _ _ _ _ hs2 hb2 a3 ?_ _)))
            have hQ := hQ.x a1 a2
            unfold qSem at hQ
            dsimp only at hQ
            by_cases ec : isC F n s2 = true
            · rw [if_pos ec] at hQ ⊢; exact hQ
            · rw [if_neg ec] at hQ ⊢; exact hQ
        · refine yes k8 (c96 (d := d) (k := k) hL hn n1.2.1 (by omega) (by omega) hk k8 h1 rfl ?_)
          cases eo : yRest F n (nxt F n s) (yNew (clk k)) k (bn B 3) (ce B) W with
          | error er =>
            rw [eo] at hQ
            exact fun I2 J2 a1 a2 a3 a4 => K85_130 hL (yes rfl (yes rfl (stop _ _ _ _ _ _ _ (hQ I2 J2 a1 a2 a3 a4))))
          | ok o =>
            obtain ⟨s2, y2⟩ := o
            rw [eo] at hQ
            have hs2 := (gd s2 y2 eo).2
            refine fun I2 J2 a1 a2 a3 => K85_130 hL (no (by decide) (no (by decide) (sm _ _ _ _ _ _ _ _ _ _ _ _ hs2 hb2 a3 ?_ _)))
            have hQ := hQ.x a1 a2
            unfold qSem at hQ
            dsimp only at hQ
            by_cases ec : isC F n s2 = true
            · rw [if_pos ec] at hQ ⊢; exact hQ
            · rw [if_neg ec] at hQ ⊢; exact hQ
def Y0 : YY := fun _ _ => 0
def pYears (F : Nat → Int32) (n N c : Nat) (W : Nat → Int64) : YR := yMain F n N c W 900 (skp F n 0) 0 0 Y0 0 (fun _ => 0)
theorem c85 {d : Nat} {Q : XQ} {S : XS} {I : XI} {J : XJ} {r : XR} {N n : Nat} {F B : Nat → Int32} {W : Nat → Int64} (hL : LAY S r) (t : TP I 0 12 11 N F) (hN : N ≤ 900) (hn : n ≤ N) (c : CR I J 28 B W) (hQ : REY Q S I J r (pYears F n (bn B 3) (ce B) W)) : xcall (d + 9) 85 [.ref 15, .ref 11, .int (nI n), .ref 28, .ref 57] S I J r Q := by
  have h7 := lay7_57 hL
  refine E85 hL (c33 (d := d + 5) (lay5_16 hL) (hL.s 11 (102, 900) rfl) (by decide) hN hn t.2 (fun I1 J1 f1 f2 f3 f4 f5 => K85_9 h7 (E12 (d := d + 7) h7 (K85_14 hL h7 ?_))))
  have k1 : yf I I1 := fun x hx => f1 x (by omega) (by omega)
  have k2 : yf I1 (up2 (up2 (up2 (up2 (up2 I1 57 0 (nI 0)) 57 1 (nI 0)) 57 2 (nI 0)) 57 0 (nI 1)) 15 2 (nI 0)) := (((((yf.r I1).u (by omega)).u (by omega)).u (by omega)).u (by omega)).u (by omega)
  refine k85 (w1 := .ref 11) (w2 := .int (nI n)) hL (by omega) 900 0 (skp F n 0) 0 0 0 0 0 (fun _ => 0) _ J1 Y0 _ _ rfl (skp_le (Nat.zero_le n)).2 ⟨by decide, by decide, by decide, fun j hj => absurd hj (by omega)⟩ ⟨f3.i6 (fun x hx => ?_), ⟨?_, ?_, ?_, fun i hi => absurd hi (by omega)⟩, up_e, fun j hj => absurd hj (by omega), ?_, ?_, (c.fr (fun q h1 h2 => ?_)).j (funext fun i => f2 32 i (by omega))⟩ (hQ.x (k1.t k2) f2.yj)
  · simp (disch := omega) only [up_o]
  · rw [up_o (by decide), up_e]; rfl
  · rw [up_o (by decide), up_i (by decide), up_i (by decide), up_e]
  · rw [up_o (by decide), up_i (by decide), up_e]
  · simp (disch := omega) only [up_o]; exact f4
  · simp (disch := omega) only [up_o]; exact f5
  · simp (disch := omega) only [up_o]; exact f1 q (by omega) (by omega)
def kyo (I I' : XI) : Prop := ∀ q i, scr q i = false → ¬ (q = 0 ∧ (i = 12 ∨ i = 14 ∨ i = 15)) → ¬ (39 ≤ q ∧ q ≤ 45) → I' q i = I q i
theorem scr_yf {q i : Nat} (h : scr q i = false) : q < 15 ∨ (18 < q ∧ q < 57) ∨ 63 < q := by
  by_cases c1 : q < 15
  · exact Or.inl c1
  by_cases c2 : 18 < q ∧ q < 57
  · exact Or.inr (Or.inl c2)
  by_cases c3 : 63 < q
  · exact Or.inr (Or.inr c3)
  have : q = 15 ∨ q = 16 ∨ q = 17 ∨ q = 18 ∨ q = 57 ∨ q = 58 ∨ q = 59 ∨ q = 60 ∨ q = 61 ∨ q = 62 ∨ q = 63 := by omega
  rcases this with rfl | rfl | rfl | rfl | rfl | rfl | rfl | rfl | rfl | rfl | rfl <;> cases h
theorem c84 {d : Nat} {Q : XQ} {S : XS} {I : XI} {J : XJ} {r : XR} {N : Nat} {x : Int32} {F B : Nat → Int32} {W : Nat → Int64} (hL : LAY S r) (t : TP I 0 12 11 N F) (hN : N ≤ 900) (c : CR I J 28 B W)
    (hB : ¬ (0 ≤ x.toInt ∧ x.toInt ≤ N ∧ x.toInt ≤ 300) → Q (some (.int (-1))) S (up2 I 0 13 (nI 5)) J r)
    (hE : ∀ (n : Nat) e, x = nI n → n ≤ N → n ≤ 300 → pYears F n (bn B 3) (ce B) W = .error e → ∀ I' J', ke I I' → yj J J' → ft I' (nI 10) (nI e.1) (nI e.2) → Q (some (.int (-1))) S I' J' r)
    (hO : ∀ (n : Nat) L T Y, x = nI n → n ≤ N → n ≤ 300 → pYears F n (bn B 3) (ce B) W = .ok (L, T, Y) → ∀ I' J', kyo I I' → yj J J' → ft I' (nI 0) (nI 0) (-1) → YA I' 39 L T Y → L ≤ 60 → Q (some (.int (nI T))) S I' J' r) : xcall (d + 10) 84 [.ref 0, .int x] S I J r Q := by
  have bad : ¬ (0 ≤ x.toInt ∧ x.toInt ≤ N ∧ x.toInt ≤ 300) → xcall (d + 9) 31 [.ref 0, .int (nI 5)] S I J r (fun v S1 I1 J1 r1 => xrun z0 (xcall (d + 9)) Q 84 24 [.ref 0, .int x, .float 0] (v.toList ++ []) S1 I1 J1 r1 0 0) := fun h => E31 (d := d + 8) hL (K84_24 (hB h))
  refine E84 hL ?_
  rcases nI_cases x with q | ⟨n, h1, h2, h3⟩
  · exact yes (by rw [i_lt, i_z]; exact q) (bad (by omega))
  refine no (by rw [i_lt, i_z]; omega) ?_
  rw [t.1]
  by_cases q2 : n ≤ N
  case neg => exact yes (by rw [i_lt, h3, i_toI (by omega)]; omega) (bad (by omega))
  refine no (by rw [i_lt, h3, i_toI (by omega)]; omega) ?_
  have z300 : (nI 300).toInt = 300 := rfl
  by_cases q3 : n ≤ 300
  case neg => exact no (by rw [i_le, h3, z300]; omega) (bad (by omega))
  refine yes (by rw [i_le, h3, z300]; omega) ?_
  rw [h2]
  refine c85 (d := d) hL t hN q2 c ?_
  have fr : ∀ I1, yf I I1 → ke I (up2 (up2 (up2 I1 0 12 (nI 0)) 0 14 (I1 16 8)) 0 15 (I1 16 9)) := fun I1 a1 q i hs hq => by
    rw [← a1 q (scr_yf hs)]
    by_cases e0 : q = 0
    · subst e0
      rw [up_i (by omega), up_i (by omega), up_i (by omega)]
    · rw [up_o e0, up_o e0, up_o e0]
  have s13 : ∀ {q i : Nat} {v : Int32} {I1 : XI}, scr q i = false → up2 I1 0 13 v q i = I1 q i := fun {q i v I1} hs => by
    by_cases e0 : q = 0
    · subst e0
      by_cases e1 : i = 13
      · subst e1; cases hs
      · rw [up_i e1]
    · rw [up_o e0]
  cases hp : pYears F n (bn B 3) (ce B) W with
  | error e =>
    refine fun I1 J1 a1 a2 a3 a4 => K84_48 (d := d + 9) (cu := 0) (su := 0) hL (E79 (d := d + 8) hL (lay5_16 hL) (K84_60 (d := d + 9) hL (nno rfl (E31 (d := d + 8) hL (K84_70 (d := d + 9) ?_)))))
    rw [up_o (by decide), up_o (by decide), up_o (by decide)]
    refine hE n e h2 q2 q3 hp _ J1 (fun q i hs hq => (s13 hs).trans (fr I1 a1 q i hs hq)) a2 ⟨up_e, ?_, ?_, ?_⟩
    · rw [up_i (by decide), up_i (by decide), up_i (by decide), up_e]
    · rw [up_i (by decide), up_i (by decide), up_e]; exact a3
    · rw [up_i (by decide), up_e]; exact a4
  | ok o =>
    obtain ⟨L, T, Y⟩ := o
    refine fun I1 J1 a1 a2 a3 hl a5 a6 => K84_48 (d := d + 9) (cu := 0) (su := 0) hL (E79 (d := d + 8) hL (lay5_16 hL) (K84_60 (d := d + 9) hL (yes (by decide) ?_)))
    replace a3 : YA I1 57 L T Y := a3
    replace hl : L ≤ 60 := hl
    rw [up_o (by decide), up_o (by decide), up_o (by decide)]
    refine c82 (d := d + 8) (lay7_39 hL) (lay7_57 hL) (by decide) ?_ (fun I2 p1 p2 p3 => K84_88 (d := d + 9) (cu := 0) (su := 0) hL ?_)
    · rw [up_o (by decide), up_o (by decide), up_o (by decide)]; exact Or.inr a3.1
    · rw [up_o (by decide), up_o (by decide), up_o (by decide)] at p2
      have ya : YA I2 39 L T Y := ⟨p2.1.trans a3.1, p2.2.1.trans a3.2.1, p2.2.2.trans a3.2.2.1, fun i hi f hf => by
        have x := p3 i (by omega)
        have y := a3.2.2.2 i hi f hf
        rw [up_o (by decide), up_o (by decide), up_o (by decide), up_o (by decide), up_o (by decide), up_o (by decide), up_o (by decide), up_o (by decide), up_o (by decide), up_o (by decide), up_o (by decide), up_o (by decide), up_o (by decide), up_o (by decide), up_o (by decide), up_o (by decide), up_o (by decide), up_o (by decide)] at x
        obtain ⟨x1, x2, x3, x4, x5, x6⟩ := x
        rcases (by omega : f = 0 ∨ f = 1 ∨ f = 2 ∨ f = 3 ∨ f = 4 ∨ f = 5) with rfl | rfl | rfl | rfl | rfl | rfl
        · exact x1.trans y
        · exact x2.trans y
        · exact x3.trans y
        · exact x4.trans y
        · exact x5.trans y
        · exact x6.trans y⟩
      have r0 := p1 0 (Or.inl (by decide))
      refine E83 (d := d + 8) hL (K84_102 (d := d + 9) ?_)
      rw [ya.2.1]
      refine hO n L T Y h2 q2 q3 hp _ J1 (fun q i hs hq hq2 => ?_) a2 ⟨up_e, ?_, ?_, ?_⟩ (ya.k (fun x h1 h2 => up_o (by omega))) hl
      · rw [s13 hs, p1 q (by omega)]
        exact fr I1 a1 q i hs hq
      · rw [up_i (by decide), r0, up_i (by decide), up_i (by decide), up_e]
      · rw [up_i (by decide), r0, up_i (by decide), up_e]; exact a5
      · rw [up_i (by decide), r0, up_e]; exact a6
