theorem r258q {d : Nat} {Q : XQ} {S : XS} {I : XI} {J : XJ} {r : XR} {Q' : XQ} {n s m : Nat} {F B : Nat → Int32} {W : Nat → Int64} {K : Nat → Nat → YO} (hL : LAY S r) (hn : n ≤ 900) (hs : s ≤ n) (w : WF B) (h : RM I J n F s) (g : GM I) (hc : ∀ i, i < 1380 → I 70 i = B i) (hw : ∀ k, k < bn B 3 → J 72 k = W k) (hQ : RQY Q' S I J r n F m (qCou F n s (bn B 3) W K))
    (hE : ∀ c x, 0 < c → c < 100 → (∀ I', kmw m (fm I c s) I' → bd I' c s → Q' none S I' J r) → Q (some (.int x)) S (fm I c s) J r)
    (hT : ∀ k I' J', k < bn B 3 → mk I I' → jk 65 19 J J' → RM I' J' n F (nxt F n s) → GM I' → RQY Q' S I' J' r n F m (K k (nxt F n s)) → Q (some (.int (nI k))) S I' J' r) : xcall (d + 7) 258 [.ref 65] S I J r Q := by
  refine r258 (K := K) hL hn hs w h g hc hw (fun c x e c0 c1 => ?_) (fun k I' J' hk e f1 f2 f3 g2 => ?_)
  · rw [e] at hQ
    exact hE c x c0 c1 (fun I' k1 b => hQ I' J ((kmw.r m I).fmk.t k1) (jk.r _ _ _) b c0 c1)
  · rw [e] at hQ
    exact hT k I' J' hk f1 f2 f3 g2 (hQ.x f1.w f2)
theorem r218q {d : Nat} {Q : XQ} {S : XS} {I : XI} {J : XJ} {r : XR} {Q' : XQ} {n s m lo hi : Nat} {F : Nat → Int32} {K : Nat → Nat → YO} (hL : LAY S r) (hn : n ≤ 900) (hs : s ≤ n) (h : RM I J n F s) (g : GM I) (hl : lo < 1000000) (hh : hi < 1000000) (hQ : RQY Q' S I J r n F m (qNum F n s lo hi K))
    (hE : ∀ c, 0 < c → c < 100 → (∀ I', kmw m (fm I c s) I' → bd I' c s → Q' none S I' J r) → Q (some (.int (nI 0))) S (fm I c s) J r)
    (hT : ∀ I' J', lo ≤ nm F n s → nm F n s ≤ hi → mk I I' → jk 65 19 J J' → RM I' J' n F (nxt F n s) → GM I' → RQY Q' S I' J' r n F m (K (nm F n s) (nxt F n s)) → Q (some (.int (nI (nm F n s)))) S I' J' r) : xcall (d + 4) 218 [.ref 65, .int (nI lo), .int (nI hi)] S I J r Q := by
  refine r218 hL hn hs h g hl hh (fun e I' J' f1 f2 f3 => ?_) (fun e => ?_)
  · rw [qNum_o e] at hQ
    have hnm := sN_0 e
    exact hT I' J' hnm.2.1 hnm.2.2 f1 f2 f3 (g.k f1) (hQ.x f1.w f2)
  · rw [qNum_e e] at hQ
    exact hE _ (by omega) sN_le (fun I' k1 b => hQ I' J ((kmw.r m I).fmk.t k1) (jk.r _ _ _) b (by show 0 < sN F n s lo hi; omega) sN_le)
theorem cj {I I' : XI} {m : Nat} {B : Nat → Int32} (k : kmw m I I') (hm : 1380 ≤ m) (hc : ∀ i, i < 1380 → I 70 i = B i) : ∀ i, i < 1380 → I' 70 i = B i := fun i hi => (k.2.1 i (by omega)).trans (hc i hi)
theorem wj {J J' : XJ} {N : Nat} {W : Nat → Int64} (j : jk 65 19 J J') (hw : ∀ k, k < N → J 72 k = W k) : ∀ k, k < N → J' 72 k = W k := fun k hk => (j 72 k (by omega)).trans (hw k hk)
theorem r257 {d : Nat} {Q : XQ} {S : XS} {I : XI} {J : XJ} {r : XR} {n s w : Nat} {F B y : Nat → Int32} {W : Nat → Int64} (hL : LAY S r) (hn : n ≤ 900) (hs : s ≤ n) (wf : WF B) (hm : 1455 ≤ w) (hm2 : w + 8 < 1725) (h : RM I J n F s) (g : GM I) (hc : ∀ i, i < 1380 → I 70 i = B i) (hw : ∀ k, k < bn B 3 → J 72 k = W k) (hy : I 70 w = nI 8) (hQ : RQY Q S I J r n F w (yTest F n s y (bn B 3) (ce B) W)) : xcall (d + 8) 257 [.ref 65, .int (nI w)] S I J r Q := by
  have hce := ce_le wf
  have n1 := nxt_le (F := F) hs
  have n2 := nxt_le (F := F) n1.2.1
  unfold yTest at hQ
  have start : ∀ (t : Nat), t ≤ 2 → tsw F n s = some t → (∀ I1 J1, kmw w I I1 → jk 65 19 J J1 → RM I1 J1 n F (nxt F n s) → GM I1 → I1 70 (w + 5) = nI t → xcall (d + 7) 258 [.ref 65] S I1 J1 r (fun v S1 I1 J1 r1 => xrun z0 (xcall (d + 7)) Q 257 46 [.ref 65, .int (nI w), .int (nI t)] (v.toList ++ [.int (nI (w + 1)), .ref 70]) S1 I1 J1 r1 0 0)) → xcall (d + 8) 257 [.ref 65, .int (nI w)] S I J r Q := fun t ht et hc => by
    refine E257 hL (r241 (d := d + 3) hL h (K257_4 hL ?_))
    rw [et]
    refine no (nI_pos (by omega)) (r222t (d := d + 4) hL hn hs h g (fun I1 J1 f1 f2 f3 => K257_18 hL ?_))
    simp only [nI_add]
    rw [nI_clamp (by omega)]
    exact ⟨vp_in_nI (by omega) (by decide), yes (g.k f1).u.le (hc _ J1 (f1.w.u (by omega)) f2 f3.u (g.k f1).u up_e)⟩
  -- a bad text, on the way
  have e46 : ∀ (t : Nat) (x : Int32) (I1 : XI) (J1 : XJ) (cu su : Nat), t ≤ 2 → BM I1 → (∀ I', kmw w I1 I' → I' 65 12 = I1 65 12 → I' 65 13 = I1 65 13 → Q none S I' J1 r) → xrun z0 (xcall (d + 7)) Q 257 46 [.ref 65, .int (nI w), .int (nI t)] [.int x, .int (nI (w + 1)), .ref 70] S I1 J1 r cu su := fun t x I1 J1 cu su ht b hQ => by
    refine K257_46 hL ?_
    rw [nI_clamp (by omega)]
    refine ⟨vp_in_nI (by omega) (by decide), ?_⟩
    have b1 : BM (up2 I1 70 (w + 1) x) := b.u
    by_cases t0 : t = 0
    · subst t0
      refine nno rfl (E259 (d := d + 6) hL (K257_64 hL (r218b (d := d + 5) hL b1 (K257_69 hL ?_))))
      simp only [nI_add]
      rw [nI_clamp (by omega)]
      exact ⟨vp_in_nI (by omega) (by decide), yes b1.u.lt (hQ _ (((kmw.r w I1).u (by omega)).u (by omega)) (by rw [up_o (by decide), up_o (by decide)]) (by rw [up_o (by decide), up_o (by decide)]))⟩
    · refine yes (by show ¬ nI t = nI 0; rw [nI_eqI (by omega) (by decide)]; exact t0) (yes b1.lt (hQ _ ((kmw.r w I1).u (by omega)) (by rw [up_o (by decide)]) (by rw [up_o (by decide)])))
  have bad46 : ∀ (t : Nat) (x : Int32) (I1 : XI) (J1 : XJ) (c p cu su : Nat), t ≤ 2 → 0 < c → c < 100 → (∀ I', kmw w (fm I1 c p) I' → bd I' c p → Q none S I' J1 r) → xrun z0 (xcall (d + 7)) Q 257 46 [.ref 65, .int (nI w), .int (nI t)] [.int x, .int (nI (w + 1)), .ref 70] S (fm I1 c p) J1 r cu su := fun t x I1 J1 c p cu su ht c0 c1 hq =>
    e46 t x _ J1 cu su ht (fm_b c0 c1) (fun I' k e1 e2 => hq I' k ⟨e1.trans (by unfold fm; rw [up_i (by decide), up_e]), e2.trans up_e⟩)
  cases e0 : isW F n s kShows
  case true =>
    rw [if_pos e0] at hQ
    refine start 0 (by decide) (by unfold tsw; rw [if_pos e0]) (fun I1 J1 k1 j1 h1 g1 e5 => ?_)
    refine r258q (d := d) hL hn n1.2.1 wf h1 g1 (cj k1 (by omega) hc) (wj j1 hw) (hQ.x k1 j1) (fun c x c0 c1 hq => bad46 0 x _ _ c _ _ _ (by decide) c0 c1 hq) (fun q I2 J2 hk f2 j2 h2 g2 hQ => K257_46 hL ?_)
    rw [nI_clamp (by omega)]
    refine ⟨vp_in_nI (by omega) (by decide), ?_⟩
    have k3 : kmw w I2 (up2 I2 70 (w + 1) (nI q)) := (kmw.r w I2).u (by omega)
    refine nno rfl (r259c (d := d + 6) hL wf (cj ((k1.t f2.w).t k3) (by omega) hc) (K257_64 hL ?_))
    rw [pk_sub (by omega)]
    simp only [nI_add]
    refine r218q (d := d + 3) hL hn n2.2.1 h2.u g2.u (by decide) (by omega) (hQ.x k3 (jk.r _ _ _)) (fun c c0 c1 hq => K257_69 hL ?_) (fun I3 J3 _ _ f4 j4 h4 g4 hQ => K257_69 hL ?_)
    · rw [nI_clamp (by omega)]
      exact ⟨vp_in_nI (by omega) (by decide), yes (fm_b c0 c1).u.lt (hq _ ((kmw.r _ _).u (by omega)) fm_d.u)⟩
    · rw [nI_clamp (by omega)]
      have gu := g4.u (i := w + 2) (v := nI (nm F n (nxt F n (nxt F n s))))
      refine ⟨vp_in_nI (by omega) (by decide), no gu.nlt (no (by decide) (hQ _ J3 ((kmw.r _ _).u (by omega)) (jk.r _ _ _) h4.u gu ⟨12, by decide, by decide, by decide, ?_, ?_, fun _ => ?_, fun h => absurd h (by decide), fun _ => ?_, fun h => absurd h (by decide), fun _ => ?_, fun h => absurd h (by decide)⟩))⟩
      · rw [ub_o (by decide), ub_o (by decide), ub_e]
      · rw [up_i (by omega), f4 70 w (by omega), k3.2.1 w (by omega), f2 70 w (by omega), k1.2.1 w (by omega)]; exact hy
      · rw [up_i (by omega), f4 70 _ (by omega), up_e, ub_o (by decide), ub_e]
      · rw [up_e, ub_e]
      · rw [up_i (by omega), f4 70 _ (by omega), up_i (by omega), f2 70 _ (by omega), e5]
  rw [if_neg (by rw [e0]; decide)] at hQ
  cases e1 : isW F n s kTan
  case true =>
    rw [if_pos e1] at hQ
    refine start 1 (by decide) (by unfold tsw; rw [if_neg (by rw [e0]; decide), if_pos e1]) (fun I1 J1 k1 j1 h1 g1 e5 => ?_)
    refine r258q (d := d) hL hn n1.2.1 wf h1 g1 (cj k1 (by omega) hc) (wj j1 hw) (hQ.x k1 j1) (fun c x c0 c1 hq => bad46 1 x _ _ c _ _ _ (by decide) c0 c1 hq) (fun q I2 J2 hk f2 j2 h2 g2 hQ => K257_46 hL ?_)
    rw [nI_clamp (by omega)]
    refine ⟨vp_in_nI (by omega) (by decide), ?_⟩
    have k3 : kmw w I2 (up2 I2 70 (w + 1) (nI q)) := (kmw.r w I2).u (by omega)
    have h3 := h2.u (i := w + 1) (v := nI q)
    have hQ := hQ.x k3 (jk.r _ _ _)
    refine yes (by decide) (no g2.u.nlt (yes rfl ?_))
    have a14 : up2 I2 70 (w + 1) (nI q) 65 14 = nI (kd F n (nxt F n (nxt F n s))) := h3.2.2.2.1
    rw [a14, nI_eqI (by have := kd_le (F := F) (n := n) (s := nxt F n (nxt F n s)); omega) (by decide)]
    simp only [nI_add]
    rw [nI_clamp (by omega)]
    -- behind the sign
    have fin : ∀ (I3 : XI) (J3 : XJ), kmw w I1 I3 → I3 70 (w + 1) = nI q → I3 70 (w + 5) = nI 1 → I3 70 (w + 7) = F (nxt F n (nxt F n s)) → RM I3 J3 n F (nxt F n (nxt F n (nxt F n s))) → GM I3 → RQY Q S I3 J3 r n F w (qNum F n (nxt F n (nxt F n (nxt F n s))) 0 9 (fun m s2 => .ok (s2, ub (ub (ub (ub y 0 (nI 13)) 1 (nI q)) 3 (F (nxt F n (nxt F n s)))) 2 (nI m)))) → xrun z0 (xcall (d + 7)) Q 257 144 [.ref 65, .int (nI w), .int (nI 1)] [] S I3 J3 r 0 0 := fun I3 J3 k4 v1 v5 v7 h4 g4 hQ => by
      have n3 := nxt_le (F := F) n2.2.1
      refine K257_144 hL ?_
      simp only [nI_add]
      refine r218q (d := d + 3) hL hn n3.2.1 h4 g4 (by decide) (by decide) hQ (fun c c0 c1 hq => K257_159 hL ?_) (fun I5 J5 _ _ f5 j5 h5 g5 hQ => K257_159 hL ?_)
      · rw [nI_clamp (by omega)]
        exact ⟨vp_in_nI (by omega) (by decide), hq _ ((kmw.r _ _).u (by omega)) fm_d.u⟩
      · rw [nI_clamp (by omega)]
        refine ⟨vp_in_nI (by omega) (by decide), hQ _ J5 ((kmw.r _ _).u (by omega)) (jk.r _ _ _) h5.u g5.u ⟨13, by decide, by decide, by decide, ?_, ?_, fun _ => ?_, fun h => absurd h (by decide), fun h => absurd h (by decide), fun h => absurd h (by decide), fun _ => ?_, fun _ => ⟨?_, ?_⟩⟩⟩
        · rw [ub_o (by decide), ub_o (by decide), ub_o (by decide), ub_e]
        · rw [up_i (by omega), f5 70 w (by omega), k4.2.1 w (by omega), k1.2.1 w (by omega)]; exact hy
        · rw [up_i (by omega), f5 70 _ (by omega), v1, ub_o (by decide), ub_o (by decide), ub_e]
        · rw [up_i (by omega), f5 70 _ (by omega), v5]
        · rw [up_e, ub_e]
        · rw [up_i (by omega), f5 70 _ (by omega), v7, ub_o (by decide), ub_e]
    have finb : ∀ (I3 : XI) (J3 : XJ) (c p : Nat), 0 < c → c < 100 → (∀ I', kmw w (fm I3 c p) I' → bd I' c p → Q none S I' J3 r) → xrun z0 (xcall (d + 7)) Q 257 144 [.ref 65, .int (nI w), .int (nI 1)] [] S (fm I3 c p) J3 r 0 0 := fun I3 J3 c p c0 c1 hq => by
      refine K257_144 hL (r218b (d := d + 5) hL (fm_b c0 c1) (K257_159 hL ?_))
      simp only [nI_add]
      rw [nI_clamp (by omega)]
      exact ⟨vp_in_nI (by omega) (by decide), hq _ ((kmw.r _ _).u (by omega)) fm_d.u⟩
    by_cases q1 : kd F n (nxt F n (nxt F n s)) = 3
    · refine nno q1 ⟨vp_in_nI (by omega) (by decide), ?_⟩
      have a17 : up2 I2 70 (w + 1) (nI q) 65 17 = F (nxt F n (nxt F n s)) := h3.2.2.2.2.2.2 q1
      rw [a17]
      have k5 : kmw w (up2 I2 70 (w + 1) (nI q)) (up2 (up2 I2 70 (w + 1) (nI q)) 70 (w + 7) (F (nxt F n (nxt F n s)))) := (kmw.r w _).u (by omega)
      refine k257c (d := d + 3) hL hn n2.2.1 h3.u g2.u.u (fun a b I3 J3 f6 j6 h6 => ?_) (fun hno => ?_)
      · rw [if_pos ⟨a, b⟩] at hQ
        refine fin I3 J3 (((f2.w.t k3).t k5).t f6.w) ?_ ?_ ?_ h6 (g2.u.u.k f6) (hQ.x (k5.t f6.w) j6)
        · rw [f6 70 _ (by omega), up_i (by omega), up_e]
        · rw [f6 70 _ (by omega), up_i (by omega), up_i (by omega), f2 70 _ (by omega), e5]
        · rw [f6 70 _ (by omega), up_e]
      · rw [if_neg hno] at hQ
        exact finb _ _ _ _ am_le.1 am_le.2 (fun I' k b => hQ I' J2 ((k5.fmk).t k) (jk.r _ _ _) b am_le.1 am_le.2)
    · refine yes q1 ⟨vp_in_nI (by omega) (by decide), ?_⟩
      have k5 : kmw w (up2 I2 70 (w + 1) (nI q)) (up2 (up2 I2 70 (w + 1) (nI q)) 70 (w + 7) (nI 0)) := (kmw.r w _).u (by omega)
      refine k257c (d := d + 3) hL hn n2.2.1 h3.u g2.u.u (fun a b I3 J3 f6 j6 h6 => absurd a q1) (fun hno => ?_)
      rw [if_neg hno] at hQ
      exact finb _ _ _ _ am_le.1 am_le.2 (fun I' k b => hQ I' J2 ((k5.fmk).t k) (jk.r _ _ _) b am_le.1 am_le.2)
  rw [if_neg (by rw [e1]; decide)] at hQ
  cases e2 : isW F n s kVeiled
  case true =>
    rw [if_pos e2] at hQ
    refine start 2 (by decide) (by unfold tsw; rw [if_neg (by rw [e0]; decide), if_neg (by rw [e1]; decide), if_pos e2]) (fun I1 J1 k1 j1 h1 g1 e5 => ?_)
    refine r258q (d := d) hL hn n1.2.1 wf h1 g1 (cj k1 (by omega) hc) (wj j1 hw) (hQ.x k1 j1) (fun c x c0 c1 hq => bad46 2 x _ _ c _ _ _ (by decide) c0 c1 hq) (fun q I2 J2 hk f2 j2 h2 g2 hQ => K257_46 hL ?_)
    rw [nI_clamp (by omega)]
    refine ⟨vp_in_nI (by omega) (by decide), ?_⟩
    refine yes (by decide) (no g2.u.nlt (no (by decide) (hQ _ J2 ((kmw.r _ _).u (by omega)) (jk.r _ _ _) h2.u g2.u ⟨14, by decide, by decide, by decide, ?_, ?_, fun _ => ?_, fun h => absurd h (by decide), fun h => absurd h (by decide), fun h => absurd h (by decide), fun _ => ?_, fun h => absurd h (by decide)⟩)))
    · rw [ub_o (by decide), ub_e]
    · rw [up_i (by omega), f2 70 w (by omega), k1.2.1 w (by omega)]; exact hy
    · rw [up_e, ub_e]
    · rw [up_i (by omega), f2 70 _ (by omega), e5]
  rw [if_neg (by rw [e2]; decide)] at hQ
  have et : tsw F n s = none := by unfold tsw; rw [if_neg (by rw [e0]; decide), if_neg (by rw [e1]; decide), if_neg (by rw [e2]; decide)]
  refine E257 hL (r241 (d := d + 3) hL h (K257_4 hL ?_))
  rw [et]
  refine yes (by decide) (r222f (d := d + 4) hL h g (K257_18 hL ?_))
  simp only [nI_add]
  rw [nI_clamp (by omega)]
  refine ⟨vp_in_nI (by omega) (by decide), no (fm_b am_le.1 am_le.2).u.nle (hQ _ J ((kmw.r w I).fmk.u (by omega)) (jk.r _ _ _) fm_d.u am_le.1 am_le.2)⟩
