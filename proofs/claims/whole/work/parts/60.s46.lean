theorem rkd_t {B : Nat → Int32} {c : Nat} : rkd B c = true ↔ ∃ q, q < bn B 2 ∧ bn B (7 + q) = c := decide_eq_true_iff
theorem SC.ne {I : XI} {J : XJ} {n s : Nat} {F B : Nat → Int32} {W : Nat → Int64} {t1 t2 : Bool} (h : SC I J n F s B W t1 t2) : (I 46 0) * (I 46 1) - nI 1 = nI (ce B - 1) := by
  have := ce_le h.2.1.wf
  unfold ce at *
  rw [h.2.1.n0, h.2.1.n1, pk_mul, pk_sub (by omega)]
theorem SC.f {I I' : XI} {J J' : XJ} {n s : Nat} {F B B' : Nat → Int32} {W W' : Nat → Int64} {t1 t2 : Bool} (h : SC I J n F s B W t1 t2) (k : frc 46 I I') (j : J' 13 = J 13) (c : CR I' J' 46 B' W') : SC I' J' n F s B' W' t1 t2 := by
  refine ⟨?_, c, by rw [k 12 (by omega)]; exact h.2.2.1, by rw [k 12 (by omega)]; exact h.2.2.2.1, by rw [k 13 (by omega)]; exact h.2.2.2.2.1, by rw [k 13 (by omega)]; exact h.2.2.2.2.2⟩
  have r := h.1
  unfold RD TX at *
  rw [k 13 (by omega), k 14 (by omega), j]
  exact r
theorem b_or01 {b : Nat} (h : b = 0 ∨ b = 1) : nI b = 0 ∨ nI b = 1 := by
  rcases h with rfl | rfl
  · exact Or.inl rfl
  · exact Or.inr rfl
theorem c59 {d : Nat} {Q : XQ} {S : XS} {I : XI} {J : XJ} {r : XR} {n s : Nat} {F B : Nat → Int32} {W : Nat → Int64} {t1 t2 : Bool} (hL : LAY S r) (hn : n ≤ 900) (hs : s ≤ n) (h : SC I J n F s B W t1 t2) (hQ : RC Q S I J r n F t1 t2 (sem F n (pRock F n s B W))) : xcall (d + 7) 59 [.ref 12, .ref 46] S I J r Q := by
  have h5 := lay5_13 hL
  have h0 := lay0_46 hL
  have hb2 := h.2.1.wf.r.2
  have hce := ce_le h.2.1.wf
  have n1 := nxt_le (F := F) hs
  have n2 := nxt_le (F := F) n1.2.1
  have n3 := nxt_le (F := F) n2.2.1
  have n4 := nxt_le (F := F) n3.2.1
  unfold pRock at hQ
  refine E59 hL h0 ?_
  rw [h.2.1.n3, nI_ltI (by omega) (by decide)]
  by_cases q1 : bn B 2 = 15
  · rw [if_pos q1] at hQ
    exact no (by omega) (c53 (d := d + 5) h5 h.1 (K59_18 ⟨Or.inl rfl, RC.e hQ⟩))
  rw [if_neg q1] at hQ
  refine yes (by omega) (c36 h5 hn hs h.1 (fun I2 J2 f1 f2 f3 => K59_26 hL h0 ?_))
  have h2 := h.a f1 f2 f3
  have hQ := hQ.x f1.f f2.j
  rw [h2.ne]
  refine c54 h5 f3 (by decide) (by omega) (fun e q e6 l1 l2 => K59_45 hL h0 (yes (by decide) ?_)) (fun e => K59_45 hL h0 (nno rfl ?_))
  case refine_2 =>
    rw [pNum_e e] at hQ
    exact RC.e hQ
  rw [pNum_o e] at hQ
  rw [e6]
  generalize hc : nm F n (nxt F n s) = c at *
  refine c60 h0 h2.2.1 (by omega) (fun q hq hq2 => K59_63 hL (no ?_ ?_)) (fun hno => K59_63 hL (yes rfl ?_))
  · rw [← Int32.toInt_inj, i_m1, i_toI (by have := (h2.2.1.wf.dp hq).2; omega)]; omega
  · rw [if_pos (rkd_t.mpr ⟨q, hq, hq2⟩)] at hQ
    exact c53 (d := d + 5) h5 f3 (K59_75 ⟨Or.inl rfl, RC.e hQ⟩)
  rw [if_neg (fun e => by
    obtain ⟨q, hq, hq2⟩ := rkd_t.mp e
    exact hno q hq hq2)] at hQ
  refine c36 h5 hn n1.2.1 f3 (fun I3 J3 g1 g2 g3 => K59_83 hL ?_)
  have h3 := h2.a g1 g2 g3
  have hQ := hQ.x g1.f g2.j
  refine c56k h5 hn n2.2.1 g3 (k := 4) (K := kDeep) (by decide) (by decide +kernel) (fun e2 I4 J4 g4 g5 g6 => K59_92 hL (no (by decide) ?_)) (fun e2 => K59_92 hL (yes rfl ?_))
  case refine_2 =>
    rw [pWrd_e e2] at hQ
    exact RC.e hQ
  rw [pWrd_o e2] at hQ
  have h4 := h3.a g4 g5 g6
  have hQ := hQ.x g4.f g5.j
  refine c54 h5 g6 (by decide) (by decide) (fun e3 q' e6' l3 l4 => K59_105 hL h0 (yes (by decide) ?_)) (fun e3 => K59_105 hL h0 (nno rfl ?_))
  case refine_2 =>
    rw [pNum_e e3] at hQ
    exact RC.e hQ
  rw [pNum_o e3] at hQ
  rw [e6']
  refine c61 h0 h4.2.1 (by omega) (by omega) l4 hno (fun I5 p1 p2 => K59_122 hL ?_)
  have h6 := h4.f p1 rfl p2
  have hQ := hQ.x p1.f (kj.r _)
  refine c36 h5 hn n3.2.1 h6.1 (fun I6 J6 p4 p5 p6 => K59_129 hL (xcall_imp (by omega) (c57s (d := d) hL hn n4.2.1 (h6.a p4 p5 p6) (RC.c (hQ.x p4.f p5.j) ?_)) (fun _ _ _ _ _ h => h)))
  exact fun b I' J' hb hq => K59_136 (cu := 0) (su := 0) ⟨b_or01 hb, hq⟩
def pInkL (F : Nat → Int32) (n k : Nat) (W : Nat → Int64) : Nat → Nat → (Nat → Int32) → CO
  | 0, s, B => .ok (s, B, W)
  | j + 1, s, B => if kd F n s = 2 then (if nm F n s < ce B ∧ inP B k (nm F n s) = true then (if bt (B (67 + k)) (nm F n s) = true then .error (5, s) else if ctN (B (67 + k)) 30 = 6 then .error (6, s) else pInkL F n k W j (nxt F n s) (ub B (67 + k) (B (67 + k) ||| bi (nm F n s)))) else .error (4, s)) else .ok (s, B, W)
def pInk (F : Nat → Int32) (n k s : Nat) (B : Nat → Int32) (W : Nat → Int64) : CO := if isW F n s kInked = true then pInkL F n k W 7 (nxt F n s) B else .ok (s, B, W)
def pVeil (F : Nat → Int32) (n k s : Nat) (B : Nat → Int32) (W : Nat → Int64) : CO := if isW F n s kVeiled = true then pInk F n k (nxt F n s) (ub B (61 + k) 1) W else pInk F n k s B W
def pTan (F : Nat → Int32) (n k s : Nat) (B : Nat → Int32) (W : Nat → Int64) : CO := if isW F n s kTan = true then pNum F n (nxt F n s) 0 9 (fun t s2 => pVeil F n k s2 (ub B (55 + k) (nI t)) W) else pVeil F n k s B W
def wW (W : Nat → Int64) (k c : Nat) : Nat → Int64 := fun i => if i = k then lN c else W i
def bnd (o : CO) (K : Nat → (Nat → Int32) → (Nat → Int64) → CO) : CO := match o with
  | .error e => .error e
  | .ok (s, B, W) => K s B W
def pPatch (F : Nat → Int32) (n s : Nat) (B : Nat → Int32) (W : Nat → Int64) : CO :=
  pWrd F n s kAt (fun s3 => pNum F n s3 0 (ce B - 1) (fun c s4 => pWrd F n s4 kWide (fun s5 => pNum F n s5 1 (bn B 0 - c % bn B 0) (fun p s6 => pWrd F n s6 kHigh (fun s7 => pNum F n s7 1 (bn B 1 - c / bn B 0) (fun q s8 => .ok (s8, nwB B (nI c) (nI p) (nI q), W)))))))
def pCousin (F : Nat → Int32) (n s : Nat) (B : Nat → Int32) (W : Nat → Int64) : CO :=
  if bn B 3 = 6 then .error (6, s) else if isN F n (nxt F n s) = false then .error (am F n (nxt F n s), nxt F n s) else if nmf W (lN (wc F n (nxt F n s))) (bn B 3) 0 ≠ none then .error (3, nxt F n s) else
  bnd (pPatch F n (nxt F n (nxt F n s)) B (wW W (bn B 3) (wc F n (nxt F n s)))) (fun s8 B8 W8 => pTan F n (bn B 3) s8 B8 W8)
/-- the class's state with its answer: 1, or 0 and the fault -/
theorem k75 {d : Nat} {Q : XQ} {S : XS} {r : XR} {n k : Nat} {F : Nat → Int32} {W : Nat → Int64} {t1 t2 : Bool} (hL : LAY S r) (hn : n ≤ 900) : ∀ (j i s cu su : Nat) (I : XI) (J : XJ) (B : Nat → Int32) (w4 : Value), i + j = 7 → s ≤ n → k < bn B 3 → SC I J n F s B W t1 t2 → RC Q S I J r n F t1 t2 (pInkL F n k W j s B) → xrun z0 (xcall (d + 4)) Q 75 2 [.ref 12, .ref 46, .int (nI k), .int (nI i), w4] [] S I J r cu su := by
  intro j
  have h5 := lay5_13 hL
  have h0 := lay0_46 hL
  induction j with
  | zero =>
    intro i s cu su I J B w4 hi hs hk h hQ
    have : i = 7 := by omega
    subst this
    exact K75_2 hL h0 (yes (by decide) (hQ _ _ (kf.r _) (kj.r _) h))
  | succ j ih =>
    intro i s cu su I J B w4 hi hs hk h hQ
    have hce := ce_le h.2.1.wf
    have hb3 := h.2.1.wf.c.2
    rw [pInkL] at hQ
    refine K75_2 hL h0 (no (by rw [nI_ltI (by decide) (by omega)]; omega) ?_)
    rw [h.1.2.2.2.1, nI_eqI (by have := kd_le (F := F) (n := n) (s := s); omega) (by decide)]
    by_cases q1 : kd F n s = 2
    case neg =>
      rw [if_neg q1] at hQ
      exact yes q1 (hQ _ _ (kf.r _) (kj.r _) h)
    rw [if_pos q1] at hQ
    have hnm := nm_lt q1
    rw [h.1.2.2.2.2.2.1 q1]
    have f4 : ¬ (nm F n s < ce B ∧ inP B k (nm F n s) = true) → ∀ cu su, xcall (d + 4) 53 [.ref 13, .int (nI 4)] S I J r (fun v S1 I1 J1 r1 => xrun z0 (xcall (d + 4)) Q 75 59 [.ref 12, .ref 46, .int (nI k), .int (nI i), .int (nI (nm F n s))] (v.toList ++ []) S1 I1 J1 r1 cu su) := fun q cu su => by
      rw [if_neg q] at hQ
      exact c53 (d := d + 3) h5 h.1 (K75_59 ⟨Or.inl rfl, RC.e hQ⟩)
    refine nno q1 (c76 h0 h.2.1 (fun x hx e => ?_) (fun e => K75_34 hL h0 (yes rfl (f4 (fun q => e (by rw [i_toI (by omega)]; omega)) _ _))))
    have e : nm F n s = x := (nI_eqI (by omega) (by omega)).mp e
    refine K75_34 hL h0 (no (by decide) ⟨vp_in_nI (by omega) (by decide), ?_⟩)
    rw [nI_clamp (by omega), h.2.1.pt hk, h.2.1.ik hk]
    have h30 : nm F n s < 30 := by omega
    rw [bt_down (by omega), bt_down (by omega)]
    by_cases q2 : inP B k (nm F n s) = true
    case neg =>
      rw [if_neg (fun h2 => q2 ((bt_pat h.2.1.wf hk (by omega)).mp h2))]
      exact nno rfl (f4 (fun h2 => q2 h2.2) _ _)
    rw [if_pos ((bt_pat h.2.1.wf hk (by omega)).mpr q2)]
    rw [if_pos ⟨by omega, q2⟩] at hQ
    refine yes (by decide) ⟨vp_in_nI (by omega) (by decide), ?_⟩
    by_cases q3 : bt (B (67 + k)) (nm F n s) = true
    · rw [if_pos q3] at hQ
      rw [if_pos q3]
      exact no (by decide) (c53 (d := d + 3) h5 h.1 (K75_82 ⟨Or.inl rfl, RC.e hQ⟩))
    rw [if_neg q3] at hQ
    rw [if_neg q3]
    refine yes rfl (c77 h0 h.2.1 hk (by omega) (fun I1 p1 p2 => K75_90 hL ?_))
    unfold ikB at p2
    unfold ikB
    by_cases q4 : ctN (B (67 + k)) 30 = 6
    · rw [if_pos q4] at hQ p2
      rw [if_pos q4]
      dsimp only at p2
      dsimp only
      have h3 := h.f p1 rfl p2
      exact no (by decide) (c53 (d := d + 3) h5 h3.1 (K75_102 ⟨Or.inl rfl, RC.e (hQ.x p1.f (kj.r _))⟩))
    rw [if_neg q4] at hQ p2
    rw [if_neg q4]
    have q5 : inP B k (nm F n s) = true ∧ bt (B (67 + k)) (nm F n s) = false := ⟨q2, Bool.eq_false_iff.mpr q3⟩
    rw [if_pos q5] at p2
    rw [if_pos q5]
    dsimp only at p2
    dsimp only
    have h3 := h.f p1 rfl p2
    refine yes rfl (c36 h5 hn hs h3.1 (fun I2 J2 f1 f2 f3 => K75_110 ?_))
    rw [nI_add]
    refine ih (i + 1) _ _ _ _ _ _ _ (by omega) (nxt_le hs).2.1 ?_ (h3.a f1 f2 f3) (hQ.x (p1.f.t f1.f) f2.j)
    unfold bn
    rw [ub_o (by omega)]
    exact hk
theorem c75 {d : Nat} {Q : XQ} {S : XS} {I : XI} {J : XJ} {r : XR} {n k s : Nat} {F B : Nat → Int32} {W : Nat → Int64} {t1 t2 : Bool} (hL : LAY S r) (hn : n ≤ 900) (hs : s ≤ n) (hk : k < bn B 3) (h : SC I J n F s B W t1 t2) (hQ : RC Q S I J r n F t1 t2 (pInkL F n k W 7 s B)) : xcall (d + 5) 75 [.ref 12, .ref 46, .int (nI k)] S I J r Q :=
  E75 (k75 hL hn 7 0 s 0 0 I J B _ rfl hs hk h hQ)
theorem c71 {d : Nat} {Q : XQ} {S : XS} {I : XI} {J : XJ} {r : XR} {n k s : Nat} {F B : Nat → Int32} {W : Nat → Int64} {t1 t2 : Bool} (hL : LAY S r) (hn : n ≤ 900) (hs : s ≤ n) (hk : k < bn B 3) (h : SC I J n F s B W t1 t2) (hQ : RC Q S I J r n F t1 t2 (pTan F n k s B W)) : xcall (d + 6) 71 [.ref 12, .ref 46, .int (nI k)] S I J r Q := by
  have h5 := lay5_13 hL
  have h0 := lay0_46 hL
  have hb3 := h.2.1.wf.c.2
  have ink : ∀ (s : Nat) (I : XI) (J : XJ) (B : Nat → Int32), s ≤ n → k < bn B 3 → SC I J n F s B W t1 t2 → RC Q S I J r n F t1 t2 (pInk F n k s B W) → xrun z0 (xcall (d + 5)) Q 71 90 [.ref 12, .ref 46, .int (nI k)] [] S I J r 0 0 := fun s I J B hs hk h hQ => by
    unfold pInk at hQ
    refine K71_90 hL (c40k h5 h.1 (k := 13) (K := kInked) (by decide) (by decide +kernel) (fun e => K71_99 hL (no (by decide) ?_)) (fun e => K71_99 hL (yes rfl ?_)))
    · rw [if_pos e] at hQ
      refine c36 h5 hn hs h.1 (fun I2 J2 f1 f2 f3 => K71_109 hL (c75 hL hn (nxt_le hs).2.1 hk (h.a f1 f2 f3) (RC.c (hQ.x f1.f f2.j) ?_)))
      exact fun b I' J' hb hq => K71_115 ⟨b_or01 hb, hq⟩
    · rw [if_neg (by rw [e]; decide)] at hQ
      exact hQ _ _ (kf.r _) (kj.r _) h
  have veil : ∀ (s : Nat) (I : XI) (J : XJ) (B : Nat → Int32), s ≤ n → k < bn B 3 → SC I J n F s B W t1 t2 → RC Q S I J r n F t1 t2 (pVeil F n k s B W) → xrun z0 (xcall (d + 5)) Q 71 64 [.ref 12, .ref 46, .int (nI k)] [] S I J r 0 0 := fun s I J B hs hk h hQ => by
    unfold pVeil at hQ
    have hb3 := h.2.1.wf.c.2
    refine K71_64 hL (c40k h5 h.1 (k := 12) (K := kVeiled) (by decide) (by decide +kernel) (fun e => K71_73 h0 (no (by decide) ?_)) (fun e => K71_73 h0 (yes rfl ?_)))
    · rw [if_pos e] at hQ
      refine c73 h0 h.2.1 hk (Or.inr rfl) (fun I1 p1 p2 => K71_82 hL ?_)
      have ev : (vlB B k 1).2 = ub B (61 + k) 1 := by
        unfold vlB
        by_cases q : B (61 + k) = 1
        · rw [if_pos q]; exact (ub_same q).symm
        · rw [if_neg q]
      rw [show (nI 1) = (1 : Int32) from rfl, ev] at p2
      have h3 := h.f p1 rfl p2
      refine c36 h5 hn hs h3.1 (fun I2 J2 f1 f2 f3 => ink _ _ _ _ (nxt_le hs).2.1 ?_ (h3.a f1 f2 f3) (hQ.x (p1.f.t f1.f) f2.j))
      unfold bn
      rw [ub_o (by omega)]
      exact hk
    · rw [if_neg (by rw [e]; decide)] at hQ
      exact ink _ _ _ _ hs hk h hQ
  unfold pTan at hQ
  refine E71 h0 (c72y h0 h.2.1.n7 (by omega) hk (K71_5 hL (yes (by decide) (c40k h5 h.1 (k := 11) (K := kTan) (by decide) (by decide +kernel) (fun e => K71_19 hL (no (by decide) ?_)) (fun e => K71_19 hL (yes rfl ?_))))))
  · rw [if_pos e] at hQ
    refine c36 h5 hn hs h.1 (fun I2 J2 f1 f2 f3 => K71_29 hL ?_)
    have h2 := h.a f1 f2 f3
    have hQ := hQ.x f1.f f2.j
    have n1 := nxt_le (F := F) hs
    refine c54 h5 f3 (by decide) (by decide) (fun e2 q e6 l1 l2 => K71_39 hL h0 (yes (by decide) ⟨vp_in_nI (by omega) (by decide), ?_⟩)) (fun e2 => K71_39 hL h0 (nno rfl ?_))
    case refine_2 =>
      rw [pNum_e e2] at hQ
      exact RC.e hQ
    rw [pNum_o e2] at hQ
    rw [e6, nI_clamp (by omega)]
    have p1 : frc 46 I2 (up2 I2 (46 + 9) k (nI (nm F n (nxt F n s)))) := (frc.r 46 I2).u (by omega) (by omega)
    have h3 := h2.f p1 rfl (h2.2.1.tan hk l2)
    refine c36 h5 hn n1.2.1 h3.1 (fun I3 J3 g1 g2 g3 => veil _ _ _ _ (nxt_le n1.2.1).2.1 ?_ (h3.a g1 g2 g3) (hQ.x (p1.f.t g1.f) g2.j))
    unfold bn
    rw [ub_o (by omega)]
    exact hk
  · rw [if_neg (by rw [e]; decide)] at hQ
    exact veil _ _ _ _ hs hk h hQ
