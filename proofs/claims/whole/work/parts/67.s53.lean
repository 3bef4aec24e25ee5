/-! a coast's text: the reference -/
def kmf (I I' : XI) : Prop := (∀ x i, x ≠ 65 → x ≠ 70 → I' x i = I x i) ∧ (∀ i, i < 1380 → I' 70 i = I 70 i) ∧ ∀ i, ¬ (12 ≤ i ∧ i ≤ 18) → i ≠ 24 → i ≠ 25 → I' 65 i = I 65 i
def kmj (J J' : XJ) : Prop := ∀ x i, ¬ (x = 65 ∧ i = 19) → ¬ (x = 72 ∧ 24 ≤ i) → J' x i = J x i
theorem kmf.r (I : XI) : kmf I I := ⟨fun _ _ _ _ => rfl, fun _ _ => rfl, fun _ _ _ _ => rfl⟩
theorem kmj.r (J : XJ) : kmj J J := fun _ _ _ _ => rfl
theorem kmf.t {I I' I2 : XI} (h : kmf I I') (h2 : kmf I' I2) : kmf I I2 := ⟨fun x i a b => (h2.1 x i a b).trans (h.1 x i a b), fun i a => (h2.2.1 i a).trans (h.2.1 i a), fun i a b c => (h2.2.2 i a b c).trans (h.2.2 i a b c)⟩
theorem kmj.t {J J' J2 : XJ} (h : kmj J J') (h2 : kmj J' J2) : kmj J J2 := fun x i a b => (h2 x i a b).trans (h x i a b)
theorem mk.f {I I' : XI} (h : mk I I') : kmf I I' := ⟨fun x i a b => h x i (by omega), fun i a => h 70 i (by omega), fun i a b c => h 65 i (by omega)⟩
theorem jk.mj {J J' : XJ} (h : jk 65 19 J J') : kmj J J' := fun x i a _ => h x i a
theorem kmf.u {I I' : XI} {i : Nat} {v : Int32} (h : kmf I I') (hi : 1380 ≤ i) : kmf I (up2 I' 70 i v) := ⟨fun x k a b => by rw [up_o b]; exact h.1 x k a b, fun k a => by rw [up_i (by omega)]; exact h.2.1 k a, fun k a b c => by rw [up_o (by decide)]; exact h.2.2 k a b c⟩
theorem kmf.w {I I' : XI} {i : Nat} {v : Int32} (h : kmf I I') (hi : (12 ≤ i ∧ i ≤ 18) ∨ i = 24 ∨ i = 25) : kmf I (up2 I' 65 i v) := ⟨fun x k a b => by rw [up_o a]; exact h.1 x k a b, fun k a => by rw [up_o (by decide)]; exact h.2.1 k a, fun k a b c => by rw [up_i (by omega)]; exact h.2.2 k a b c⟩
theorem kmf.fm {I I' : XI} {k s : Nat} (h : kmf I I') : kmf I (fm I' k s) := (h.w (by omega)).w (by omega)
/-- the reference's state on the way -/
def SM (I : XI) (J : XJ) (n : Nat) (F : Nat → Int32) (s : Nat) (B : Nat → Int32) (W : Nat → Int64) (t1 t2 : Bool) : Prop := RM I J n F s ∧ GM I ∧ (∀ i, i < 345 → I 70 (1380 + i) = B i) ∧ (∀ k, k < bn B 3 → J 72 (24 + k) = W k) ∧ I 65 24 = b01 t1 ∧ I 65 25 = b01 t2
theorem SM.a {I I' : XI} {J J' : XJ} {n s s' : Nat} {F B : Nat → Int32} {W : Nat → Int64} {t1 t2 : Bool} (h : SM I J n F s B W t1 t2) (k : mk I I') (j : jk 65 19 J J') (d : RM I' J' n F s') : SM I' J' n F s' B W t1 t2 :=
  ⟨d, h.2.1.k k, fun i hi => (k 70 _ (by omega)).trans (h.2.2.1 i hi), fun q hq => (j 72 _ (by omega)).trans (h.2.2.2.1 q hq), (k 65 24 (by omega)).trans h.2.2.2.2.1, (k 65 25 (by omega)).trans h.2.2.2.2.2⟩
theorem RM.i {I I' : XI} {J J' : XJ} {n s : Nat} {F : Nat → Int32} (h : RM I J n F s) (k : ∀ i, I' 69 i = I 69 i) (k2 : ∀ i, i = 9 ∨ 14 ≤ i ∧ i ≤ 18 → I' 65 i = I 65 i) (j : J' 65 19 = J 65 19) : RM I' J' n F s := by
  unfold RM TT at *
  rw [k2 9 (by omega), k2 14 (by omega), k2 15 (by omega), k2 16 (by omega), k2 17 (by omega), k2 18 (by omega), j]
  exact ⟨⟨h.1.1, fun i hi => (k i).trans (h.1.2.1 i hi), h.1.2.2⟩, h.2⟩
theorem RM.u {I : XI} {J : XJ} {n s i : Nat} {v : Int32} {F : Nat → Int32} (h : RM I J n F s) : RM (up2 I 70 i v) J n F s := h.i (fun _ => by rw [up_o (by decide)]) (fun _ _ => by rw [up_o (by decide)]) rfl
def bd (I : XI) (k s : Nat) : Prop := I 65 12 = nI k ∧ I 65 13 = nI s
def RQ (Q : XQ) (S : XS) (I : XI) (J : XJ) (r : XR) (n : Nat) (F : Nat → Int32) (t1 t2 : Bool) : CO → Prop
  | .error e => ∀ I' J', kmf I I' → kmj J J' → bd I' e.1 e.2 → Q none S I' J' r
  | .ok o => ∀ I' J', kmf I I' → kmj J J' → SM I' J' n F o.1 o.2.1 o.2.2 t1 t2 → Q none S I' J' r
theorem RQ.x {Q : XQ} {S : XS} {I I1 : XI} {J J1 : XJ} {r : XR} {n : Nat} {F : Nat → Int32} {t1 t2 : Bool} {o : CO} (h : RQ Q S I J r n F t1 t2 o) (k : kmf I I1) (j : kmj J J1) : RQ Q S I1 J1 r n F t1 t2 o := by
  cases o with
  | error e => exact fun I' J' f1 f2 => h I' J' (k.t f1) (j.t f2)
  | ok o => exact fun I' J' f1 f2 => h I' J' (k.t f1) (j.t f2)
theorem fm_d {I : XI} {k s : Nat} : bd (fm I k s) k s := ⟨by unfold fm; rw [up_i (by decide), up_e], up_e⟩
theorem bd.b {I : XI} {k s : Nat} (h : bd I k s) (h1 : 0 < k) (h2 : k < 100) : BM I := ⟨k, h.1, h1, h2⟩
theorem bd.u {I : XI} {k s i : Nat} {v : Int32} (h : bd I k s) : bd (up2 I 70 i v) k s := ⟨by rw [up_o (by decide)]; exact h.1, by rw [up_o (by decide)]; exact h.2⟩
theorem sN_p {F : Nat → Int32} {n s lo hi : Nat} (h : sN F n s lo hi ≠ 0) : 0 < sN F n s lo hi := by omega
theorem r226 {d : Nat} {Q : XQ} {S : XS} {I : XI} {J : XJ} {r : XR} {n s : Nat} {F B : Nat → Int32} {W : Nat → Int64} {t1 t2 : Bool} (hL : LAY S r) (hn : n ≤ 900) (hs : s ≤ n) (h : SM I J n F s B W t1 t2) (hQ : RQ Q S I J r n F t1 true (pOdds F n s B W t2)) : xcall (d + 5) 226 [.ref 65] S I J r Q := by
  unfold pOdds at hQ
  have n1 := nxt_le (F := F) hs
  refine E226 hL ?_
  rw [h.2.2.2.2.2, h.1.2.1]
  cases t2
  case true =>
    rw [if_pos rfl] at hQ
    have b := fm_b (I := I) (k := 5) (s := s) (by decide) (by decide)
    exact no (by decide) (r217 (d := d + 3) hL h.2.1 (K226_16 hL (no b.nle (hQ _ _ (kmf.r I).fm (kmj.r J) fm_d))))
  rw [if_neg (by decide)] at hQ
  have k1 : kmf I (up2 I 65 25 (nI 1)) := (kmf.r I).w (by omega)
  have h1 : SM (up2 I 65 25 (nI 1)) J n F s B W t1 true := ⟨h.1.i (fun _ => by rw [up_o (by decide)]) (fun i hi => by rw [up_i (by omega)]) rfl, by unfold GM; rw [up_i (by decide)]; exact h.2.1, fun i hi => by rw [up_o (by decide)]; exact h.2.2.1 i hi, h.2.2.2.1, by rw [up_i (by decide)]; exact h.2.2.2.2.1, up_e⟩
  refine yes rfl (K226_16 hL (yes h.2.1.le (r207 (d := d + 2) hL hn hs h1.1 (fun I1 J1 f1 f2 f3 => K226_33 hL ?_))))
  have h2 := h1.a f1 f2 f3
  have hQ := hQ.x (k1.t f1.f) f2.mj
  refine r218 (d := d) hL hn n1.2.1 f3 h2.2.1 (by decide) (by decide) (fun e I2 J2 g1 g2 g3 => K226_47 hL ⟨vp_in_nI (by decide) (by decide), ?_⟩) (fun e => K226_47 hL ⟨vp_in_nI (by decide) (by decide), ?_⟩)
  · rw [pNum_o e] at hQ
    rw [nI_clamp (by decide)]
    have h3 := h2.a g1 g2 g3
    have hQ := hQ.x g1.f g2.mj
    refine hQ _ _ ((kmf.r _).u (by decide)) (kmj.r _) ⟨g3.u, by unfold GM; rw [up_o (by decide)]; exact h3.2.1, fun i hi => ?_, fun k hk => ?_, by rw [up_o (by decide)]; exact h3.2.2.2.2.1, by rw [up_o (by decide)]; exact h3.2.2.2.2.2⟩
    · show up2 I2 70 1384 _ 70 (1380 + i) = ub B 4 _ i
      by_cases e4 : i = 4
      · subst e4; rw [up_e, ub_e]
      · rw [up_i (by omega), ub_o e4]; exact h3.2.2.1 i hi
    · have : bn (ub B 4 (nI (nm F n (nxt F n s)))) 3 = bn B 3 := by unfold bn; rw [ub_o (by decide)]
      rw [this] at hk
      exact h3.2.2.2.1 k hk
  · rw [pNum_e e] at hQ
    rw [nI_clamp (by decide)]
    exact hQ _ _ ((kmf.r _).fm.u (by decide)) (kmj.r _) fm_d.u
theorem SM.w {I : XI} {J : XJ} {n s i : Nat} {v : Int32} {F B : Nat → Int32} {W : Nat → Int64} {t1 t2 : Bool} (h : SM I J n F s B W t1 t2) (hi : i < 345) (h3 : i ≠ 3) : SM (up2 I 70 (1380 + i) v) J n F s (ub B i v) W t1 t2 :=
  ⟨h.1.u, by unfold GM; rw [up_o (by decide)]; exact h.2.1, fun j hj => by
    by_cases e : j = i
    · subst e; rw [up_e, ub_e]
    · rw [up_i (by omega), ub_o e]; exact h.2.2.1 j hj, fun k hk => by
    have : bn (ub B i v) 3 = bn B 3 := by unfold bn; rw [ub_o (fun e => h3 e.symm)]
    rw [this] at hk
    exact h.2.2.2.1 k hk, by rw [up_o (by decide)]; exact h.2.2.2.2.1, by rw [up_o (by decide)]; exact h.2.2.2.2.2⟩
theorem RM.fmk {I : XI} {J : XJ} {n s k p : Nat} {F : Nat → Int32} (h : RM I J n F s) : RM (fm I k p) J n F s := h.i (fun _ => by unfold fm; rw [up_o (by decide), up_o (by decide)]) (fun i hi => by unfold fm; rw [up_i (by omega), up_i (by omega)]) rfl
/-- what is left of the size, once it is faulty -/
theorem r216b {d : Nat} {Q : XQ} {S : XS} {I : XI} {J : XJ} {r : XR} {y0 : Int32} {cu su k p n s : Nat} {F : Nat → Int32} (hL : LAY S r) (h : RM I J n F s) (hb : bd I k p) (hk : 0 < k) (hk2 : k < 100) (hQ : ∀ I', kmf I I' → bd I' k p → Q none S I' J r) : xrun z0 (xcall (d + 4)) Q 216 69 [.ref 65] [.int y0, .int (nI 1380), .ref 70] S I J r cu su := by
  refine K216_69 hL ⟨vp_in_nI (by decide) (by decide), ?_⟩
  rw [nI_clamp (by decide)]
  have k1 : kmf I (up2 I 70 1380 y0) := (kmf.r I).u (by decide)
  have b1 : bd (up2 I 70 1380 y0) k p := hb.u
  refine r223 (d := d + 1) hL h.u (K216_82 hL (r224b (d := d + 1) hL (b1.b hk hk2) (K216_87 hL ⟨vp_in_nI (by decide) (by decide), ?_⟩)))
  rw [nI_clamp (by decide)]
  exact hQ _ (k1.u (by decide)) b1.u
theorem r216 {d : Nat} {Q : XQ} {S : XS} {I : XI} {J : XJ} {r : XR} {n s : Nat} {F B : Nat → Int32} {W : Nat → Int64} {t1 t2 : Bool} (hL : LAY S r) (hn : n ≤ 900) (hs : s ≤ n) (w : WF B) (h : SM I J n F s B W t1 t2) (hQ : RQ Q S I J r n F true t2 (pSize F n s B W t1)) : xcall (d + 6) 216 [.ref 65] S I J r Q := by
  unfold pSize at hQ
  have n1 := nxt_le (F := F) hs
  have n2 := nxt_le (F := F) n1.2.1
  have n3 := nxt_le (F := F) n2.2.1
  have hb2 := w.r.2
  have hb3 := w.c.2
  have bad : (t1 = true ∨ bn B 2 ≠ 0 ∨ bn B 3 ≠ 0) → xcall (d + 5) 217 [.ref 65, .int (nI 5), .int (nI s)] S I J r (fun v S1 I1 J1 r1 => xrun z0 (xcall (d + 5)) Q 216 38 [.ref 65] (v.toList ++ []) S1 I1 J1 r1 0 0) := fun q => by
    rw [if_pos q] at hQ
    have b := fm_b (I := I) (k := 5) (s := s) (by decide) (by decide)
    exact r217 (d := d + 4) hL h.2.1 (K216_38 hL (no b.nle (hQ _ _ (kmf.r I).fm (kmj.r J) fm_d)))
  have e2 : I 70 1382 = nI (bn B 2) := (h.2.2.1 2 (by decide)).trans w.r.1
  have e3 : I 70 1383 = nI (bn B 3) := (h.2.2.1 3 (by decide)).trans w.c.1
  refine E216 hL ?_
  rw [h.2.2.2.2.1, h.1.2.1, e2, e3]
  by_cases q1 : t1 = true
  · rw [b01_t q1]; exact yes (by decide) (bad (Or.inl q1))
  rw [b01_f (Bool.eq_false_iff.mpr q1)]
  refine nno rfl ?_
  by_cases q2 : bn B 2 = 0
  case neg => exact yes (by rw [show (0 : Int32) = nI 0 from rfl, nI_ltI (by decide) (by omega)]; omega) (bad (Or.inr (Or.inl q2)))
  refine no (by rw [q2]; decide) ?_
  by_cases q3 : bn B 3 = 0
  case neg => exact no (by rw [show (0 : Int32) = nI 0 from rfl, nI_leI (by omega) (by decide)]; omega) (bad (Or.inr (Or.inr q3)))
  rw [if_neg (fun h => h.elim q1 (fun h => h.elim (fun h => h q2) (fun h => h q3)))] at hQ
  have k1 : kmf I (up2 I 65 24 (nI 1)) := (kmf.r I).w (by omega)
  have h1 : SM (up2 I 65 24 (nI 1)) J n F s B W true t2 := ⟨h.1.i (fun _ => by rw [up_o (by decide)]) (fun i hi => by rw [up_i (by omega)]) rfl, by unfold GM; rw [up_i (by decide)]; exact h.2.1, fun i hi => by rw [up_o (by decide)]; exact h.2.2.1 i hi, h.2.2.2.1, up_e, by rw [up_i (by decide)]; exact h.2.2.2.2.2⟩
  refine yes (by rw [q3]; decide) (K216_38 hL (yes h.2.1.le (r207 (d := d + 3) hL hn hs h1.1 (fun I1 J1 f1 f2 f3 => K216_55 hL ?_))))
  have h2 := h1.a f1 f2 f3
  have hQ := hQ.x (k1.t f1.f) f2.mj
  refine r218 (d := d + 1) hL hn n1.2.1 f3 h2.2.1 (by decide) (by decide) (fun e I2 J2 g1 g2 g3 => ?_) (fun e => ?_)
  case refine_2 =>
    rw [pNum_e e] at hQ
    exact r216b (d := d + 1) hL f3.fmk fm_d (by omega) sN_le (fun I' a b => hQ I' J1 ((kmf.r I1).fm.t a) (kmj.r _) b)
  rw [pNum_o e] at hQ
  have h3 := h2.a g1 g2 g3
  have hQ := hQ.x g1.f g2.mj
  refine K216_69 hL ⟨vp_in_nI (by decide) (by decide), ?_⟩
  rw [nI_clamp (by decide)]
  have h4 := h3.w (i := 0) (v := nI (nm F n (nxt F n s))) (by decide) (by decide)
  have hQ := hQ.x ((kmf.r I2).u (i := 1380) (v := nI (nm F n (nxt F n s))) (by decide)) (kmj.r J2)
  refine r223 (d := d + 2) hL h4.1 (K216_82 hL ?_)
  cases eb : isW F n (nxt F n (nxt F n s)) kBy
  · rw [pWrd_e eb] at hQ
    refine r224f (d := d) hL h4.1 h4.2.1 (K216_87 hL ⟨vp_in_nI (by decide) (by decide), ?_⟩)
    rw [nI_clamp (by decide)]
    exact hQ _ _ ((kmf.r _).fm.u (by decide)) (kmj.r _) fm_d.u
  · rw [pWrd_o eb] at hQ
    refine r224t (d := d) hL hn n2.2.1 h4.1 h4.2.1 (by decide) (by decide) (fun e4 I3 J3 f4 f5 f6 => K216_87 hL ⟨vp_in_nI (by decide) (by decide), ?_⟩) (fun e4 I3 J3 f4 f5 _ => K216_87 hL ⟨vp_in_nI (by decide) (by decide), ?_⟩)
    · rw [nI_clamp (by decide)]
      rw [pNum_o e4] at hQ
      have h5 := (h4.a f4 f5 f6).w (i := 1) (v := nI (nm F n (nxt F n (nxt F n (nxt F n s))))) (by decide) (by decide)
      exact hQ _ _ (f4.f.u (by decide)) f5.mj h5
    · rw [nI_clamp (by decide)]
      rw [pNum_e e4] at hQ
      exact hQ _ _ (f4.f.fm.u (by decide)) f5.mj fm_d.u
