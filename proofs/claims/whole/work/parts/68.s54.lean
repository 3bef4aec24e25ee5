/-- what is left of a rock, once it is faulty -/
theorem r228b {d : Nat} {Q : XQ} {S : XS} {I : XI} {J : XJ} {r : XR} {w1 w3 : Value} {x : Int32} {cu su k p n s : Nat} {F : Nat → Int32} (hL : LAY S r) (h : RM I J n F s) (hb : bd I k p) (hk : 0 < k) (hk2 : k < 100) (hQ : Q none S I J r) : xrun z0 (xcall (d + 4)) Q 228 87 [.ref 65, w1, .int x, w3] [] S I J r cu su :=
  K228_87 hL (r222b (d := d + 3) hL (hb.b hk hk2) (K228_92 hL (r230 (d := d + 1) hL h (K228_97 hL (r224b (d := d + 1) hL (hb.b hk hk2) (K228_103 hL (yes (hb.b hk hk2).ne (K228_118 hQ))))))))
theorem SM.ne {I : XI} {J : XJ} {n s : Nat} {F B : Nat → Int32} {W : Nat → Int64} {t1 t2 : Bool} (h : SM I J n F s B W t1 t2) (w : WF B) : (I 70 1380) * (I 70 1381) - nI 1 = nI (ce B - 1) := by
  have := ce_le w
  have e0 : I 70 1380 = nI (bn B 0) := (h.2.2.1 0 (by decide)).trans w.w.1
  have e1 : I 70 1381 = nI (bn B 1) := (h.2.2.1 1 (by decide)).trans w.h.1
  unfold ce at *
  rw [e0, e1, pk_mul, pk_sub (by omega)]
theorem r228 {d : Nat} {Q : XQ} {S : XS} {I : XI} {J : XJ} {r : XR} {n s : Nat} {F B : Nat → Int32} {W : Nat → Int64} {t1 t2 : Bool} (hL : LAY S r) (hn : n ≤ 900) (hs : s ≤ n) (w : WF B) (h : SM I J n F s B W t1 t2) (hQ : RQ Q S I J r n F t1 t2 (pRock F n s B W)) : xcall (d + 6) 228 [.ref 65] S I J r Q := by
  unfold pRock at hQ
  have n1 := nxt_le (F := F) hs
  have n2 := nxt_le (F := F) n1.2.1
  have n3 := nxt_le (F := F) n2.2.1
  have hb2 := w.r.2
  have hce := ce_le w
  have e2 : I 70 1382 = nI (bn B 2) := (h.2.2.1 2 (by decide)).trans w.r.1
  refine E228 hL ?_
  rw [e2, h.1.2.1, nI_eqI (by omega) (by decide)]
  by_cases q1 : bn B 2 = 15
  · rw [if_pos q1] at hQ
    have b := fm_b (I := I) (k := 6) (s := s) (by decide) (by decide)
    exact nno q1 (r217 (d := d + 4) hL h.2.1 (K228_25 hL (no b.nle (hQ _ _ (kmf.r I).fm (kmj.r J) fm_d))))
  rw [if_neg q1] at hQ
  refine yes q1 (K228_25 hL (yes h.2.1.le (r207 (d := d + 3) hL hn hs h.1 (fun I1 J1 f1 f2 f3 => K228_37 hL ?_))))
  have h2 := h.a f1 f2 f3
  have hQ := hQ.x f1.f f2.mj
  rw [h2.ne w]
  refine r219 (d := d + 2) hL f3 h2.2.1 (by decide) (by omega) (fun e => K228_61 hL (nno h2.2.1 ?_)) (fun e => K228_61 hL (yes (fm_b (by omega) sN_le).ne ?_))
  case refine_2 =>
    rw [pNum_e e] at hQ
    exact r228b (d := d + 1) hL f3.fmk fm_d (by omega) sN_le (hQ _ _ (kmf.r _).fm (kmj.r _) fm_d)
  have hnm := sN_0 e
  rw [pNum_o e] at hQ
  generalize hc : nm F n (nxt F n s) = c at *
  refine r229 (d := d + 4) (b := 4) (B := B) hL (by decide) h2.2.2.1 w (by omega) (fun q hq hq2 => K228_75 hL (no (nI_pos (by omega)) ?_)) (fun hno => K228_75 hL (yes (by decide) ?_))
  · rw [if_pos (rkd_t.mpr ⟨q, hq, hq2⟩)] at hQ
    rw [f3.2.1]
    exact r217 (d := d + 4) hL h2.2.1 (r228b (d := d + 1) hL f3.fmk fm_d (by decide) (by decide) (hQ _ _ (kmf.r _).fm (kmj.r _) fm_d))
  rw [if_neg (fun e => by
    obtain ⟨q, hq, hq2⟩ := rkd_t.mp e
    exact hno q hq hq2)] at hQ
  refine K228_87 hL (r222t (d := d + 2) hL hn n1.2.1 f3 h2.2.1 (fun I2 J2 g1 g2 g3 => K228_92 hL (r230 (d := d + 2) hL g3 (K228_97 hL ?_))))
  have h3 := h2.a g1 g2 g3
  have hQ := hQ.x g1.f g2.mj
  cases eb : isW F n (nxt F n (nxt F n s)) kDeep
  · rw [pWrd_e eb] at hQ
    exact r224f (d := d) hL g3 h3.2.1 (K228_103 hL (yes (fm_b am_le.1 am_le.2).ne (K228_118 (hQ _ _ (kmf.r _).fm (kmj.r _) fm_d))))
  rw [pWrd_o eb] at hQ
  refine r224t (d := d) hL hn n2.2.1 g3 h3.2.1 (by decide) (by decide) (fun e4 I3 J3 f4 f5 f6 => K228_103 hL (nno (h3.a f4 f5 f6).2.1 ?_)) (fun e4 I3 J3 f4 f5 _ => K228_103 hL (yes (fm_b (by omega) sN_le).ne ?_))
  · rw [pNum_o e4] at hQ
    have h4 := h3.a f4 f5 f6
    have hQ := hQ.x f4.f f5.mj
    refine xcall_imp (by omega) (r231 (d := d) (b := 4) (B := B) hL (by decide) h4.2.2.1 ⟨w.r.1, by omega⟩ (fun I4 p1 p2 p3 => K228_118 (d := d + 5) (cu := 0) (su := 0) (hQ _ _ ⟨fun x i a b => congrFun (p1 x b) i, fun i a => p3 i (Or.inl (by omega)), fun i a b c => congrFun (p1 65 (by decide)) i⟩ (kmj.r _) ⟨f6.i (fun i => congrFun (p1 69 (by decide)) i) (fun i _ => congrFun (p1 65 (by decide)) i) rfl, ?_, p2, ?_, ?_, ?_⟩))) (fun _ _ _ _ _ h => h)
    · unfold GM; rw [p1 65 (by decide)]; exact h4.2.1
    · intro k hk
      have : bn (rkB B (nI c) (nI (nm F n (nxt F n (nxt F n (nxt F n s)))))) 3 = bn B 3 := by unfold bn; rw [rkB_o (by decide) (by omega) (by omega)]
      rw [this] at hk
      exact h4.2.2.2.1 k hk
    · rw [p1 65 (by decide)]; exact h4.2.2.2.2.1
    · rw [p1 65 (by decide)]; exact h4.2.2.2.2.2
  · rw [pNum_e e4] at hQ
    exact K228_118 (hQ _ _ f4.f.fm f5.mj fm_d)
