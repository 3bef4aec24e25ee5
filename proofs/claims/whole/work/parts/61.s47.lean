theorem c66 {d : Nat} {Q : XQ} {S : XS} {I : XI} {J : XJ} {r : XR} {n s c : Nat} {F B : Nat → Int32} {W : Nat → Int64} {t1 t2 : Bool} (hL : LAY S r) (hn : n ≤ 900) (hs : s ≤ n) (h : SC I J n F s B W t1 t2) (h6 : bn B 3 < 6) (hQ : RC Q S I J r n F t1 t2 (pPatch F n s B (wW W (bn B 3) c))) : xcall (d + 7) 66 [.ref 12, .ref 46, .long (lN c)] S I J r Q := by
  have h5 := lay5_13 hL
  have h0 := lay0_46 hL
  have hce := ce_le h.2.1.wf
  have hw0 := h.2.1.wf.w
  have hh0 := h.2.1.wf.h
  have n1 := nxt_le (F := F) hs
  have n2 := nxt_le (F := F) n1.2.1
  have n3 := nxt_le (F := F) n2.2.1
  have n4 := nxt_le (F := F) n3.2.1
  have n5 := nxt_le (F := F) n4.2.1
  unfold pPatch at hQ
  refine E66 hL (c56k h5 hn hs h.1 (k := 8) (K := kAt) (by decide) (by decide +kernel) (fun e I1 J1 f1 f2 f3 => K66_9 hL h0 (no (by decide) ?_)) (fun e => K66_9 hL h0 (yes rfl ?_)))
  case refine_2 =>
    rw [pWrd_e e] at hQ
    exact RC.e hQ
  rw [pWrd_o e] at hQ
  have h1 := h.a f1 f2 f3
  have hQ := hQ.x f1.f f2.j
  rw [h1.ne]
  refine c54 h5 f3 (by decide) (by omega) (fun e1 q e6 l1 l2 => K66_31 hL (yes (by decide) ?_)) (fun e1 => K66_31 hL (nno rfl ?_))
  case refine_2 =>
    rw [pNum_e e1] at hQ
    exact RC.e hQ
  rw [pNum_o e1] at hQ
  rw [e6]
  generalize hx : nm F n (nxt F n s) = x at *
  refine c36 h5 hn n1.2.1 f3 (fun I2 J2 g1 g2 g3 => K66_52 hL ?_)
  have h2 := h1.a g1 g2 g3
  have hQ := hQ.x g1.f g2.j
  refine c56k h5 hn n2.2.1 g3 (k := 9) (K := kWide) (by decide) (by decide +kernel) (fun e2 I3 J3 f4 f5 f6 => K66_61 hL h0 (no (by decide) ?_)) (fun e2 => K66_61 hL h0 (yes rfl ?_))
  case refine_2 =>
    rw [pWrd_e e2] at hQ
    exact RC.e hQ
  rw [pWrd_o e2] at hQ
  have h3 := h2.a f4 f5 f6
  have hQ := hQ.x f4.f f5.j
  have hm : x % bn B 0 < bn B 0 := Nat.mod_lt _ (by omega)
  have hd : x / bn B 0 < bn B 1 := by rw [Nat.div_lt_iff_lt_mul (by omega), Nat.mul_comm]; unfold ce at *; omega
  refine c67 h0 h3.2.1 (by omega) (K66_79 hL ?_)
  rw [h3.2.1.n0, pk_sub (by omega)]
  refine c54 h5 f6 (by decide) (by omega) (fun e3 q e6' l3 l4 => K66_83 hL (yes (by decide) ?_)) (fun e3 => K66_83 hL (nno rfl ?_))
  case refine_2 =>
    rw [pNum_e e3] at hQ
    exact RC.e hQ
  rw [pNum_o e3] at hQ
  rw [e6']
  generalize hp : nm F n (nxt F n (nxt F n (nxt F n s))) = p at *
  refine c36 h5 hn n3.2.1 f6 (fun I4 J4 g4 g5 g6 => K66_104 hL ?_)
  have h4 := h3.a g4 g5 g6
  have hQ := hQ.x g4.f g5.j
  refine c56k h5 hn n4.2.1 g6 (k := 10) (K := kHigh) (by decide) (by decide +kernel) (fun e4 I5 J5 f7 f8 f9 => K66_113 hL h0 (no (by decide) ?_)) (fun e4 => K66_113 hL h0 (yes rfl ?_))
  case refine_2 =>
    rw [pWrd_e e4] at hQ
    exact RC.e hQ
  rw [pWrd_o e4] at hQ
  have h5' := h4.a f7 f8 f9
  have hQ := hQ.x f7.f f8.j
  refine c68 h0 h5'.2.1 (by omega) (K66_131 hL ?_)
  rw [h5'.2.1.n1, pk_sub (by omega)]
  have hle : bn B 1 - x / bn B 0 < 1000000 := Nat.lt_of_le_of_lt (Nat.sub_le _ _) (by omega)
  refine c54 h5 f9 (by decide) hle (fun e5 q e6'' l5 l6 => K66_135 hL h0 (yes (by decide) ?_)) (fun e5 => K66_135 hL h0 (nno rfl ?_))
  case refine_2 =>
    rw [pNum_e e5] at hQ
    exact RC.e hQ
  rw [pNum_o e5] at hQ
  rw [e6'']
  generalize hq : nm F n (nxt F n (nxt F n (nxt F n (nxt F n (nxt F n s))))) = y at *
  refine c69 h0 h5'.2.1 h6 (by omega) ⟨l3, by omega⟩ ⟨l5, by omega⟩ (fun I6 J6 p1 p2 p3 => K66_156 hL ?_)
  have h7 := h5'.f p1 (p2 13 (by decide)) p3
  have hQ := hQ.x p1.f (fun x _ hx => p2 x hx)
  exact c36 h5 hn n5.2.1 h7.1 (fun I7 J7 g7 g8 g9 => K66_163 (hQ _ _ g7.f g8.j (h7.a g7 g8 g9)))
theorem bn_nw {B : Nat → Int32} {c p q : Int32} (h : bn B 3 < 6) : bn (nwB B c p q) 3 = bn B 3 + 1 := bn_nI ub_e (by omega)
theorem pPatch_ok {F B B' : Nat → Int32} {n s s' : Nat} {W W' : Nat → Int64} (h : pPatch F n s B W = .ok (s', B', W')) : ∃ c p q : Nat, B' = nwB B (nI c) (nI p) (nI q) := by
  unfold pPatch pWrd pNum at h
  split at h
  · try dsimp only at h
    split at h
    · try dsimp only at h
      split at h
      · try dsimp only at h
        split at h
        · try dsimp only at h
          split at h
          · try dsimp only at h
            split at h
            · injection h with h
              injection h with h1 h2
              injection h2 with h2 h3
              exact ⟨_, _, _, h2.symm⟩
            · cases h
          · cases h
        · cases h
      · cases h
    · cases h
  · cases h
theorem pPatch_s {F B B' : Nat → Int32} {n s s' : Nat} {W W' : Nat → Int64} (hs : s ≤ n) (h : pPatch F n s B W = .ok (s', B', W')) : s' ≤ n := by
  have n1 := nxt_le (F := F) hs
  have n2 := nxt_le (F := F) n1.2.1
  have n3 := nxt_le (F := F) n2.2.1
  have n4 := nxt_le (F := F) n3.2.1
  have n5 := nxt_le (F := F) n4.2.1
  have n6 := nxt_le (F := F) n5.2.1
  unfold pPatch pWrd pNum at h
  split at h
  · try dsimp only at h
    split at h
    · try dsimp only at h
      split at h
      · try dsimp only at h
        split at h
        · try dsimp only at h
          split at h
          · try dsimp only at h
            split at h
            · injection h with h
              injection h with h1 h2
              rw [← h1]; exact n6.2.1
            · cases h
          · cases h
        · cases h
      · cases h
    · cases h
  · cases h
theorem pInkL_s {F : Nat → Int32} {n k : Nat} {W W' : Nat → Int64} {s' : Nat} {B' : Nat → Int32} : ∀ j s B, s ≤ n → pInkL F n k W j s B = .ok (s', B', W') → s' ≤ n
  | 0, s, B, hs, h => by rw [pInkL] at h; cases h; exact hs
  | j + 1, s, B, hs, h => by
    rw [pInkL] at h
    split at h
    · split at h
      · split at h
        · cases h
        · split at h
          · cases h
          · exact pInkL_s j _ _ (nxt_le hs).2.1 h
      · cases h
    · cases h; exact hs
theorem pTan_s {F B B' : Nat → Int32} {n k s s' : Nat} {W W' : Nat → Int64} (hs : s ≤ n) (h : pTan F n k s B W = .ok (s', B', W')) : s' ≤ n := by
  have ink : ∀ s B, s ≤ n → pInk F n k s B W = .ok (s', B', W') → s' ≤ n := fun s B hs h => by
    unfold pInk at h
    split at h
    · exact pInkL_s _ _ _ (nxt_le hs).2.1 h
    · cases h; exact hs
  have veil : ∀ s B, s ≤ n → pVeil F n k s B W = .ok (s', B', W') → s' ≤ n := fun s B hs h => by
    unfold pVeil at h
    split at h
    · exact ink _ _ (nxt_le hs).2.1 h
    · exact ink _ _ hs h
  unfold pTan pNum at h
  split at h
  · split at h
    · exact veil _ _ (nxt_le (nxt_le hs).2.1).2.1 h
    · cases h
  · exact veil _ _ hs h
theorem c62 {d : Nat} {Q : XQ} {S : XS} {I : XI} {J : XJ} {r : XR} {n s : Nat} {F B : Nat → Int32} {W : Nat → Int64} {t1 t2 : Bool} (hL : LAY S r) (hn : n ≤ 900) (hs : s ≤ n) (h : SC I J n F s B W t1 t2) (hQ : RC Q S I J r n F t1 t2 (sem F n (pCousin F n s B W))) : xcall (d + 8) 62 [.ref 12, .ref 46] S I J r Q := by
  have h5 := lay5_13 hL
  have h0 := lay0_46 hL
  have hb3 := h.2.1.wf.c.2
  have n1 := nxt_le (F := F) hs
  have n2 := nxt_le (F := F) n1.2.1
  unfold pCousin at hQ
  refine E62 hL h0 ?_
  rw [h.2.1.n7, nI_ltI (by omega) (by decide)]
  by_cases q1 : bn B 3 = 6
  · rw [if_pos q1] at hQ
    exact no (by omega) (c53 (d := d + 6) h5 h.1 (K62_18 ⟨Or.inl rfl, RC.e hQ⟩))
  rw [if_neg q1] at hQ
  refine yes (by omega) (c36 h5 hn hs h.1 (fun I1 J1 f1 f2 f3 => K62_26 hL ?_))
  have h1 := h.a f1 f2 f3
  have hQ := hQ.x f1.f f2.j
  refine c63 h5 f3 (fun e => K62_33 hL h0 (yes (by decide) ?_)) (fun e => K62_33 hL h0 (nno rfl ?_))
  case refine_2 =>
    rw [if_pos e] at hQ
    exact RC.e hQ
  rw [if_neg (by rw [e]; decide)] at hQ
  have ek := (isN_t.mp e).1
  rw [f3.2.2.2.2.1 ek]
  refine c65 h0 h1.2.1 (K62_51 hL ?_)
  cases e2 : nmf W (lN (wc F n (nxt F n s))) (bn B 3) 0 with
  | some k =>
    have := nmf_lt _ _ e2
    rw [e2, if_pos (by intro h; cases h)] at hQ
    refine no ?_ (c53 (d := d + 6) h5 f3 (K62_63 ⟨Or.inl rfl, RC.e hQ⟩))
    show ¬ nI k = (-1 : Int32)
    exact nI_m1 (by omega)
  | none =>
    rw [e2, if_neg (fun h => h rfl)] at hQ
    refine yes rfl (c36 h5 hn n1.2.1 f3 (fun I2 J2 g1 g2 g3 => K62_71 hL ?_))
    have h2 := h1.a g1 g2 g3
    have hQ := hQ.x g1.f g2.j
    refine c66 hL hn n2.2.1 h2 (by omega) ?_
    cases eo : pPatch F n (nxt F n (nxt F n s)) B (wW W (bn B 3) (wc F n (nxt F n s))) with
    | error er =>
      rw [eo] at hQ
      exact fun I' J' a1 a2 a3 a4 => K62_77 hL h0 (yes rfl (hQ I' J' a1 a2 a3 a4))
    | ok o =>
      obtain ⟨s8, B8, W8⟩ := o
      rw [eo] at hQ
      obtain ⟨c, p, q, eB⟩ := pPatch_ok eo
      have hs8 := pPatch_s n2.2.1 eo
      intro I3 J3 a1 a2 a3
      replace a3 : SC I3 J3 n F s8 B8 W8 t1 t2 := a3
      have hQ := hQ.x a1 a2
      refine K62_77 hL h0 (no (by decide) ?_)
      have hb8 : bn B8 3 = bn B 3 + 1 := by rw [eB]; exact bn_nw (by omega)
      rw [a3.2.1.n7, hb8, pk_sub (by omega), Nat.add_sub_cancel]
      refine xcall_imp (by omega) (c71 (d := d) hL hn hs8 (by omega) a3 ?_) (fun _ _ _ _ _ h => h)
      replace hQ : RC Q S I3 J3 r n F t1 t2 (sem F n (pTan F n (bn B 3) s8 B8 W8)) := hQ
      cases et : pTan F n (bn B 3) s8 B8 W8 with
      | error er =>
        rw [et] at hQ
        exact fun I' J' b1 b2 b3 b4 => K62_91 (d := d + 7) hL (yes rfl (hQ I' J' b1 b2 b3 b4))
      | ok o =>
        obtain ⟨s9, B9, W9⟩ := o
        rw [et] at hQ
        have hs9 := pTan_s hs8 et
        refine fun I' J' b1 b2 b3 => K62_91 (d := d + 7) hL (no (by decide) (xcall_imp (by omega) (c57s (d := d) hL hn hs9 b3 (RC.c (hQ.x b1 b2) ?_)) (fun _ _ _ _ _ h => h)))
        intro b I' J' hb hq
        rcases hb with rfl | rfl
        · exact K62_101 (d := d + 7) (cu := 0) (su := 0) (yes rfl hq)
        · exact K62_101 (d := d + 7) (cu := 0) (su := 0) (no (by decide) hq)
