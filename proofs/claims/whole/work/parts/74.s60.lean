theorem r251a {d : Nat} {Q : XQ} {S : XS} {I : XI} {J : XJ} {r : XR} {x : Int32} (hL : LAY S r) (h : ∀ b : Int32, Q (some (.int b)) S I J r) : xcall (d + 1) 251 [.ref 65, .int x] S I J r Q := E251 hL ⟨fun _ => h _, fun _ => ⟨fun _ => h _, fun _ => h _⟩⟩
def RLP (P : XI → XJ → Prop) (I : XI) (J : XJ) : CE → Prop
  | .error e => ∀ I' J', kmf I I' → kmj J J' → bd I' e.1 e.2 → BM I' → P I' J'
  | .ok o => ∀ I' J', kmf I I' → kmj J J' → GM I' → (∀ i, i < 345 → I' 70 (1380 + i) = o.1 i) → (∀ k, k < bn o.1 3 → J' 72 (24 + k) = o.2 k) → WF o.1 → P I' J'
theorem RLP.x {P : XI → XJ → Prop} {I I1 : XI} {J J1 : XJ} {o : CE} (h : RLP P I J o) (k : kmf I I1) (j : kmj J J1) : RLP P I1 J1 o := by
  cases o with
  | error e => exact fun I' J' f1 f2 => h I' J' (k.t f1) (j.t f2)
  | ok o => exact fun I' J' f1 f2 => h I' J' (k.t f1) (j.t f2)
theorem k205 {d : Nat} {Q : XQ} {S : XS} {r : XR} {n : Nat} {F : Nat → Int32} {P : XI → XJ → Prop} (hL : LAY S r) (hn : n ≤ 900)
    (hP : ∀ I J, P I J → ∀ w1 cu su, xcall (d + 9) 252 [.ref 65] S I J r (fun v S1 I1 J1 r1 => xrun z0 (xcall (d + 9)) Q 205 73 [.ref 65, w1] (v.toList ++ []) S1 I1 J1 r1 cu su)) : ∀ (j s cu su : Nat) (I : XI) (J : XJ) (B : Nat → Int32) (W : Nat → Int64) (t1 t2 : Bool) (w1 : Value), 900 ≤ s + j → s ≤ n → WF B → SM I J n F s B W t1 t2 → RLP P I J (pMain F n j s B W t1 t2) → xrun z0 (xcall (d + 9)) Q 205 38 [.ref 65, w1] [] S I J r cu su := by
  intro j
  induction j with
  | zero =>
    intro s cu su I J B W t1 t2 w1 hj hs w h hQ
    refine K205_38 hL (nno h.2.1 (yes ?_ (hP _ _ (hQ _ _ (kmf.r _) (kmj.r _) h.2.1 h.2.2.1 h.2.2.2.1 w) _ _ _)))
    rw [h.1.2.2.2.1, kd_0.mpr (by omega)]; rfl
  | succ j ih =>
    intro s cu su I J B W t1 t2 w1 hj hs w h hQ
    rw [pMain] at hQ
    dsimp only at hQ
    have stop : ∀ I J, BM I → P I J → ∀ w1 cu su, xrun z0 (xcall (d + 9)) Q 205 38 [.ref 65, w1] [] S I J r cu su := fun I J g p w1 cu su => K205_38 hL (yes g.ne (hP _ _ p _ _ _))
    have aft : ∀ (o : CO) (u1 u2 : Bool) (cu su : Nat), wl o → good s n o → (∀ s0, s < s0 → True) → RLP P I J (match sem F n o with
      | .error e => .error e
      | .ok (s', B', W') => pMain F n j s' B' W' u1 u2) → RQ (fun v S1 I1 J1 r1 => xrun z0 (xcall (d + 9)) Q 205 56 [.ref 65, w1] (v.toList ++ []) S1 I1 J1 r1 cu su) S I J r n F u1 u2 o := fun o u1 u2 cu su hw hg _ hQ => by
      cases o with
      | error e =>
        intro I' J' a1 a2 a3
        have g : BM I' := a3.b hw.1 hw.2
        exact K205_56 hL (r251a (d := d + 8) hL (fun b => K205_63 hL (r222b (d := d + 8) hL g (K205_66 (stop I' J' g (hQ I' J' a1 a2 a3 g) _ _ _)))))
      | ok o =>
        obtain ⟨s', B', W'⟩ := o
        have hs' := hg s' B' W' rfl
        intro I' J' a1 a2 a3
        have hQ := hQ.x a1 a2
        replace a3 : SM I' J' n F s' B' W' u1 u2 := a3
        have hwB : WF B' := hw
        refine K205_56 hL (r251 (d := d + 8) (s := s') hL a3.1 (K205_63 hL ?_))
        cases ec : isC F n s'
        · rw [sem_e ec] at hQ
          have g := fm_b (I := I') (s := s') (am_le (F := F) (n := n) (s := s')).1 am_le.2
          exact r222f (d := d + 6) hL a3.1 a3.2.1 (K205_66 (stop _ J' g (hQ _ _ (kmf.r _).fm (kmj.r _) fm_d g) _ _ _))
        · rw [sem_o ec] at hQ
          have e3 := (isC_t.mp ec).1
          have hlt : s' < n := by
            rcases Nat.lt_or_ge s' n with q | q
            · exact q
            · rw [kd_0.mpr q] at e3; cases e3
          have nx := nxt_le (F := F) hs'.2
          have nx3 := nx.2.2 hlt
          exact r222t (d := d + 6) hL hn hs'.2 a3.1 a3.2.1 (fun I2 J2 f1 f2 f3 => K205_66 (ih _ _ _ _ _ _ _ _ _ _ (by omega) nx.2.1 hwB (a3.a f1 f2 f3) (hQ.x f1.f f2.mj)))
    refine K205_38 hL (nno h.2.1 ?_)
    rw [h.1.2.2.2.1, show (0 : Int32) = nI 0 from rfl, nI_eqI (by have := kd_le (F := F) (n := n) (s := s); omega) (by decide)]
    by_cases q0 : kd F n s = 0
    · rw [if_pos q0] at hQ
      exact yes q0 (hP _ _ (hQ _ _ (kmf.r _) (kmj.r _) h.2.1 h.2.2.1 h.2.2.2.1 w) _ _ _)
    rw [if_neg q0] at hQ
    refine no q0 (E212 hL (r213 (d := d + 5) hL h.1 (K212_4 hL ?_)))
    cases e1 : isW F n s kCoast
    case true =>
      rw [if_pos e1] at hQ
      exact no (by decide) (r216 (d := d + 2) hL hn hs w h (by
        have := aft _ _ _ cu su (wl_size w) (gd_size hs) (fun _ _ => trivial) hQ
        cases ho : pSize F n s B W t1 with
        | error e => rw [ho] at this; exact fun I' J' a1 a2 a3 => K212_11 (K212_60 (this I' J' a1 a2 a3))
        | ok o => rw [ho] at this; exact fun I' J' a1 a2 a3 => K212_11 (K212_60 (this I' J' a1 a2 a3))))
    rw [if_neg (by rw [e1]; decide)] at hQ
    refine yes rfl (r225 (d := d + 5) hL h.1 (K212_18 hL ?_))
    cases e2 : isW F n s kOdds
    case true =>
      rw [if_pos e2] at hQ
      exact no (by decide) (r226 (d := d + 3) hL hn hs h (by
        have := aft _ _ _ cu su (wl_odds w) (gd_odds hs) (fun _ _ => trivial) hQ
        cases ho : pOdds F n s B W t2 with
        | error e => rw [ho] at this; exact fun I' J' a1 a2 a3 => K212_25 (K212_60 (this I' J' a1 a2 a3))
        | ok o => rw [ho] at this; exact fun I' J' a1 a2 a3 => K212_25 (K212_60 (this I' J' a1 a2 a3))))
    rw [if_neg (by rw [e2]; decide)] at hQ
    refine yes rfl (r227 (d := d + 5) hL h.1 (K212_32 hL ?_))
    cases e3 : isW F n s kRock
    case true =>
      rw [if_pos e3] at hQ
      exact no (by decide) (r228 (d := d + 2) hL hn hs w h (by
        have := aft _ _ _ cu su (wl_rock w) (gd_rock hs) (fun _ _ => trivial) hQ
        cases ho : pRock F n s B W with
        | error e => rw [ho] at this; exact fun I' J' a1 a2 a3 => K212_39 (K212_60 (this I' J' a1 a2 a3))
        | ok o => rw [ho] at this; exact fun I' J' a1 a2 a3 => K212_39 (K212_60 (this I' J' a1 a2 a3))))
    rw [if_neg (by rw [e3]; decide)] at hQ
    refine yes rfl (r232 (d := d + 5) hL h.1 (K212_46 hL ?_))
    cases e4 : isW F n s kCousin
    case true =>
      rw [if_pos e4] at hQ
      exact no (by decide) (r233 (d := d + 1) hL hn hs w h (by
        have := aft _ _ _ cu su (wl_cousin w) (gd_cousin hs) (fun _ _ => trivial) hQ
        cases ho : pCousin F n s B W with
        | error e => rw [ho] at this; exact fun I' J' a1 a2 a3 => K212_53 (K212_60 (this I' J' a1 a2 a3))
        | ok o => rw [ho] at this; exact fun I' J' a1 a2 a3 => K212_53 (K212_60 (this I' J' a1 a2 a3))))
    rw [if_neg (by rw [e4]; decide)] at hQ
    have g := fm_b (I := I) (s := s) (am_le (F := F) (n := n) (s := s)).1 am_le.2
    refine yes rfl (r220 (d := d + 6) hL h.1 h.2.1 (K212_60 (K205_56 hL (r251a (d := d + 8) hL (fun b => K205_63 hL (r222b (d := d + 8) hL g (K205_66 (stop _ J g (hQ _ _ (kmf.r _).fm (kmj.r _) fm_d g) _ _ _))))))))
