theorem nmf_cg {W W' : Nat → Int64} {c : Int64} : ∀ j i, (∀ q, i ≤ q → q < i + j → W q = W' q) → nmf W c j i = nmf W' c j i
  | 0, _, _ => rfl
  | j + 1, i, h => by rw [nmf, nmf, h i (by omega) (by omega), nmf_cg j (i + 1) (fun q h1 h2 => h q (by omega) (by omega))]
theorem r233 {d : Nat} {Q : XQ} {S : XS} {I : XI} {J : XJ} {r : XR} {n s : Nat} {F B : Nat → Int32} {W : Nat → Int64} {t1 t2 : Bool} (hL : LAY S r) (hn : n ≤ 900) (hs : s ≤ n) (w : WF B) (h : SM I J n F s B W t1 t2) (hQ : RQ Q S I J r n F t1 t2 (pCousin F n s B W)) : xcall (d + 7) 233 [.ref 65] S I J r Q := by
  have hb3 := w.c.2
  have n1 := nxt_le (F := F) hs
  have n2 := nxt_le (F := F) n1.2.1
  have e3 : I 70 1383 = nI (bn B 3) := (h.2.2.1 3 (by decide)).trans w.c.1
  unfold pCousin at hQ
  generalize hk : bn B 3 = k at *
  refine E233 hL ?_
  rw [e3, h.1.2.1, nI_eqI (by omega) (by decide)]
  by_cases q1 : k = 6
  · rw [if_pos q1] at hQ
    have b := fm_b (I := I) (k := 6) (s := s) (by decide) (by decide)
    exact nno q1 (r217 (d := d + 5) hL h.2.1 (K233_25 hL (no b.nle (hQ _ _ (kmf.r I).fm (kmj.r J) fm_d))))
  rw [if_neg q1] at hQ
  refine yes q1 (K233_25 hL (yes h.2.1.le (r207 (d := d + 4) hL hn hs h.1 (fun I1 J1 f1 f2 f3 => K233_37 hL (r234 (d := d) hL n1.2.1 hn f3 (K233_41 hL ?_))))))
  have h1 := h.a f1 f2 f3
  have hQ := hQ.x f1.f f2.mj
  cases en : isN F n (nxt F n s)
  · rw [if_pos en] at hQ
    have b := fm_b (I := I1) (s := nxt F n s) (am_le (F := F) (n := n) (s := nxt F n s)).1 am_le.2
    exact nno rfl (r220 (d := d + 4) hL f3 h1.2.1 (K233_48 hL (yes b.ne (K233_72 hL (no b.nle (hQ _ _ (kmf.r _).fm (kmj.r _) fm_d))))))
  rw [if_neg (by rw [en]; decide)] at hQ
  have ek := (isN_t.mp en).1
  have ew : J1 65 19 = lN (wc F n (nxt F n s)) := by
    rw [(f3.2.2.2.2.1 ek).1]
    have h8 := (isN_t.mp en).2.1
    have hwc := wc_0 ek
    unfold wJ
    have hn8 : ¬ 8 < ex F n (nxt F n s) - nxt F n s := fun q => h8 (hwc.mpr q)
    rw [if_neg hn8]
    unfold wc
    rw [if_neg hn8]
  have h33 : I1 70 (345 * 4 + 3) = nI k := by rw [← hk]; exact (h1.2.2.1 3 (by decide)).trans w.c.1
  refine yes (by decide) (K233_48 hL (nno h1.2.1 (r245 (d := d + 5) (b := 4) hL (by decide) (by omega) h33 (K233_60 hL ?_))))
  have ecg : nmf (fun q => J1 72 (6 * 4 + q)) (J1 65 19) k 0 = nmf W (lN (wc F n (nxt F n s))) k 0 := by
    rw [ew]
    exact nmf_cg k 0 (fun q _ hq => h1.2.2.2.1 q (by omega))
  rw [ecg]
  cases e2 : nmf W (lN (wc F n (nxt F n s))) k 0 with
  | some v =>
    have := nmf_lt _ _ e2
    rw [e2, if_pos (by intro h; cases h)] at hQ
    have b := fm_b (I := I1) (k := 3) (s := nxt F n s) (by decide) (by decide)
    rw [f3.2.1]
    exact no (nI_pos (by omega)) (r217 (d := d + 5) hL h1.2.1 (K233_72 hL (no b.nle (hQ _ _ (kmf.r _).fm (kmj.r _) fm_d))))
  | none =>
    rw [e2, if_neg (fun h => h rfl)] at hQ
    refine yes (by decide) (K233_72 hL (yes h1.2.1.le ⟨by rw [nI_add]; exact vp_in_nI (by omega) (by decide), ?_⟩))
    rw [nI_add, nI_clamp (by omega), ew]
    have jm : kmj J1 (up2 J1 72 (24 + k) (lN (wc F n (nxt F n s)))) := fun x i a b => by
      by_cases e : x = 72
      · subst e; rw [up_i (by omega)]
      · rw [up_o e]
    have hQ := hQ.x (kmf.r _) jm
    have f4 : RM I1 (up2 J1 72 (24 + k) (lN (wc F n (nxt F n s)))) n F (nxt F n s) := f3.i (fun _ => rfl) (fun _ _ => rfl) (by rw [up_o (by decide)])
    refine r207 (d := d + 4) hL hn n1.2.1 f4 (fun I2 J2 g1 g2 g3 => ?_)
    have h2 : SM I2 J2 n F (nxt F n (nxt F n s)) B W t1 t2 := ⟨g3, h1.2.1.k g1, fun i hi => (g1 70 _ (by omega)).trans (h1.2.2.1 i hi), fun q hq => by
      rw [g2 72 _ (by omega), up_i (by omega)]; exact h1.2.2.2.1 q hq, (g1 65 24 (by omega)).trans h1.2.2.2.2.1, (g1 65 25 (by omega)).trans h1.2.2.2.2.2⟩
    refine r233p (d := d + 1) hL hn n2.2.1 w hk (by omega) h2 (wW W k (wc F n (nxt F n s))) (fun q hq => ?_) (hQ.x g1.f g2.mj)
    rw [g2 72 _ (by omega)]
    unfold wW
    by_cases e : q = k
    · rw [if_pos e, e, up_e]
    · rw [if_neg e, up_i (by omega)]; exact h1.2.2.2.1 q (by omega)
