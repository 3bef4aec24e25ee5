def RE (Q : XQ) (S : XS) (I : XI) (J : XJ) (r : XR) : CE → Prop
  | .error e => ∀ I' J', kf I I' → kj J J' → I' 13 8 = nI e.1 → I' 13 9 = nI e.2 → Q (some (.int (nI 0))) S I' J' r
  | .ok o => ∀ I' J', kf I I' → kj J J' → CR I' J' 46 o.1 o.2 → I' 13 8 = nI 0 → I' 13 9 = -1 → Q (some (.int (nI 1))) S I' J' r
theorem RE.x {Q : XQ} {S : XS} {I I1 : XI} {J J1 : XJ} {r : XR} {o : CE} (h : RE Q S I J r o) (k : kf I I1) (j : kj J J1) : RE Q S I1 J1 r o := by
  cases o with
  | error e => exact fun I' J' f1 f2 => h I' J' (k.t f1) (j.t f2)
  | ok o => exact fun I' J' f1 f2 => h I' J' (k.t f1) (j.t f2)
theorem k32 {d : Nat} {Q : XQ} {S : XS} {r : XR} {n : Nat} {F : Nat → Int32} {w1 w2 : Value} (hL : LAY S r) (hn : n ≤ 900) : ∀ (j i s cu su : Nat) (I : XI) (J : XJ) (B : Nat → Int32) (W : Nat → Int64) (t1 t2 : Bool), i + j = 900 → s ≤ n → SC I J n F s B W t1 t2 → RE Q S I J r (pMain F n j s B W t1 t2) → xrun z0 (xcall (d + 8)) Q 32 29 [.ref 12, w1, w2, .ref 46, .int (nI 1), .int (nI i)] [] S I J r cu su := by
  intro j
  have h5 := lay5_13 hL
  have h0 := lay0_46 hL
  induction j with
  | zero =>
    intro i s cu su I J B W t1 t2 hi hs h hQ
    have : i = 900 := by omega
    subst this
    exact K32_29 hL (yes (by decide) ⟨Or.inr rfl, hQ _ _ (kf.r _) (kj.r _) h.2.1 h.2.2.2.2.1 h.2.2.2.2.2⟩)
  | succ j ih =>
    intro i s cu su I J B W t1 t2 hi hs h hQ
    rw [pMain] at hQ
    dsimp only at hQ
    -- behind a part
    have part : ∀ (o : CO) (u1 u2 : Bool) (Q' : XQ) (s0 : Nat), good s0 n o → (∀ b I J, (∀ cu su, xrun z0 (xcall (d + 8)) Q 32 29 [.ref 12, w1, w2, .ref 46, .int b, .int (nI (i + 1))] [] S I J r cu su) → Q' (some (.int b)) S I J r) → RE Q S I J r (match o with
      | .error e => .error e
      | .ok (s', B', W') => pMain F n j s' B' W' u1 u2) → RC Q' S I J r n F u1 u2 o := fun o u1 u2 Q' s0 hg hK hQ => by
      cases o with
      | error e =>
        refine fun I' J' a1 a2 a3 a4 => hK _ _ _ (fun cu su => K32_29 hL ?_)
        exact ⟨fun _ => ⟨Or.inl rfl, hQ I' J' a1 a2 a3 a4⟩, fun _ => yes rfl ⟨Or.inl rfl, hQ I' J' a1 a2 a3 a4⟩⟩
      | ok o =>
        obtain ⟨s', B', W'⟩ := o
        have := hg s' B' W' rfl
        exact fun I' J' a1 a2 a3 => hK _ _ _ (fun cu su => ih (i + 1) s' _ _ I' J' B' W' u1 u2 (by omega) this.2 a3 (hQ.x a1 a2))
    refine K32_29 hL (no (by rw [nI_leI (by decide) (by omega)]; omega) (no (by decide) ?_))
    rw [h.1.2.2.2.1, show (0 : Int32) = nI 0 from rfl, nI_eqI (by have := kd_le (F := F) (n := n) (s := s); omega) (by decide)]
    by_cases q0 : kd F n s = 0
    · rw [if_pos q0] at hQ
      exact yes q0 ⟨Or.inr rfl, hQ _ _ (kf.r _) (kj.r _) h.2.1 h.2.2.2.2.1 h.2.2.2.2.2⟩
    rw [if_neg q0] at hQ
    refine no q0 (c40k (d := d + 3) h5 h.1 (k := 0) (K := kCoast) (by decide) (by decide +kernel) (fun e => K32_61 hL (no (by decide) ?_)) (fun e => K32_61 hL (yes rfl ?_)))
    · rw [if_pos e] at hQ
      exact xcall_imp (by omega) (c52 (d := d) hL hn hs h (part _ _ _ _ _ (gd_sem (gd_size hs)) (fun b I J hk => K32_69 (d := d + 8) (w1 := w1) (w2 := w2) (w4 := .int (nI 1)) (by rw [nI_add]; exact hk _ _)) hQ)) (fun _ _ _ _ _ h => h)
    rw [if_neg (by rw [e]; decide)] at hQ
    refine c40k (d := d + 3) h5 h.1 (k := 2) (K := kOdds) (by decide) (by decide +kernel) (fun e => K32_83 hL (no (by decide) ?_)) (fun e => K32_83 hL (yes rfl ?_))
    · rw [if_pos e] at hQ
      exact xcall_imp (by omega) (c58 (d := d) hL hn hs h (part _ _ _ _ _ (gd_sem (gd_odds hs)) (fun b I J hk => K32_91 (by rw [nI_add]; exact hk _ _)) hQ)) (fun _ _ _ _ _ h => h)
    rw [if_neg (by rw [e]; decide)] at hQ
    refine c40k (d := d + 3) h5 h.1 (k := 3) (K := kRock) (by decide) (by decide +kernel) (fun e => K32_105 hL (no (by decide) ?_)) (fun e => K32_105 hL (yes rfl ?_))
    · rw [if_pos e] at hQ
      exact xcall_imp (by omega) (c59 (d := d) hL hn hs h (part _ _ _ _ _ (gd_sem (gd_rock hs)) (fun b I J hk => K32_113 (by rw [nI_add]; exact hk _ _)) hQ)) (fun _ _ _ _ _ h => h)
    rw [if_neg (by rw [e]; decide)] at hQ
    refine c40k (d := d + 3) h5 h.1 (k := 5) (K := kCousin) (by decide) (by decide +kernel) (fun e => K32_127 hL (no (by decide) ?_)) (fun e => K32_127 hL (yes rfl ?_))
    · rw [if_pos e] at hQ
      exact c62 (d := d) hL hn hs h (part _ _ _ _ _ (gd_sem (gd_cousin hs)) (fun b I J hk => K32_135 (by rw [nI_add]; exact hk _ _)) hQ)
    rw [if_neg (by rw [e]; decide)] at hQ
    refine c55 (d := d + 7) h5 h.1 (K32_147 (K32_29 hL ?_))
    have fin := hQ (up2 (up2 I 13 8 (nI (am F n s))) 13 9 (nI s)) J (((kf.r I).u (by omega)).u (by omega)) (kj.r _) (by rw [up_i (by decide), up_e]) up_e
    exact ⟨fun _ => ⟨Or.inl rfl, fin⟩, fun _ => yes rfl ⟨Or.inl rfl, fin⟩⟩
