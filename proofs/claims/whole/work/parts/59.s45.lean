theorem c40k {d : Nat} {Q : XQ} {S : XS} {I : XI} {J : XJ} {r : XR} {a n s k K : Nat} {F : Nat → Int32} (h0 : LY5 S r a) (h : RD I J a n F s) (hk : k < 29) (hb : (∀ i, i < strLen k → swd k i < 34359738368) ∧ swd k (strLen k) = K ∧ K < 1099511627776)
    (hT : isW F n s K = true → Q (some (.int (nI 1))) S I J r) (hF : isW F n s K = false → Q (some (.int (nI 0))) S I J r) : xcall (d + 5) 40 [.ref a, .retAddr k] S I J r Q :=
  c40 h0 h hk hb.1 (by rw [hb.2.1]; exact hb.2.2) (by rw [hb.2.1]; exact hT) (by rw [hb.2.1]; exact hF)
theorem c56k {d : Nat} {Q : XQ} {S : XS} {I : XI} {J : XJ} {r : XR} {a n s k K : Nat} {F : Nat → Int32} (h0 : LY5 S r a) (hn : n ≤ 900) (hs : s ≤ n) (h : RD I J a n F s) (hk : k < 29) (hb : (∀ i, i < strLen k → swd k i < 34359738368) ∧ swd k (strLen k) = K ∧ K < 1099511627776)
    (hT : isW F n s K = true → ∀ I' J', rk a I I' → jk a 5 J J' → RD I' J' a n F (nxt F n s) → Q (some (.int (nI 1))) S I' J' r) (hF : isW F n s K = false → FA Q S I J r a (am F n s) s) : xcall (d + 6) 56 [.ref a, .retAddr k] S I J r Q :=
  c56 h0 hn hs h hk hb.1 (by rw [hb.2.1]; exact hb.2.2) (by rw [hb.2.1]; exact hT) (by rw [hb.2.1]; exact hF)
theorem RC.c {Q Q' : XQ} {S : XS} {I : XI} {J : XJ} {r : XR} {n : Nat} {F : Nat → Int32} {t1 t2 : Bool} {o : CO} (h : RC Q S I J r n F t1 t2 o) (k : ∀ b I J, (b = 0 ∨ b = 1) → Q (some (.int (nI b))) S I J r → Q' (some (.int (nI b))) S I J r) : RC Q' S I J r n F t1 t2 o := by
  cases o with
  | error e => exact fun I' J' f1 f2 f3 f4 => k 0 _ _ (Or.inl rfl) (h I' J' f1 f2 f3 f4)
  | ok o => exact fun I' J' f1 f2 f3 => k 1 _ _ (Or.inr rfl) (h I' J' f1 f2 f3)
theorem up_rowe {I I1 : XI} {a i : Nat} {v : Int32} (h : I1 a = I a) : up2 I1 a i v a = up2 I a i v a := funext fun j => by
  unfold up2
  rw [if_pos rfl, if_pos rfl, h]
theorem orN_z {f : Nat → Int32} : orN f 0 = 0 := rfl
theorem CR.sz {I : XI} {J : XJ} {a w h : Nat} {B : Nat → Int32} {W : Nat → Int64} (c : CR I J a B W) (h2 : bn B 2 = 0) (h3 : bn B 3 = 0) (hw : 1 ≤ w ∧ w ≤ 6) (hh : 1 ≤ h ∧ h ≤ 5) : CR (up2 (up2 I a 0 (nI w)) a 1 (nI h)) J a (ub (ub B 0 (nI w)) 1 (nI h)) W := by
  have o : ∀ j, j ≠ 0 → j ≠ 1 → ub (ub B 0 (nI w)) 1 (nI h) j = B j := fun j h1 h2 => by rw [ub_o h2, ub_o h1]
  have e2 : bn (ub (ub B 0 (nI w)) 1 (nI h)) 2 = 0 := by unfold bn; rw [o 2 (by decide) (by decide)]; exact h2
  have e3 : bn (ub (ub B 0 (nI w)) 1 (nI h)) 3 = 0 := by unfold bn; rw [o 3 (by decide) (by decide)]; exact h3
  have g : ∀ i, 2 ≤ i → up2 (up2 I a 0 (nI w)) a 1 (nI h) a i = I a i := fun i hi => by rw [up_i (by omega), up_i (by omega)]
  have wf := c.wf
  refine ⟨⟨?_, ?_, ?_, ?_, ?_, fun q hq => ?_, fun p q h1 hq => ?_, fun k hk => ?_⟩, ⟨?_, ?_, ?_, ?_, ?_, ?_, ?_, ?_⟩, fun i hi => ?_, fun t ht => ?_, fun k hk => ?_⟩
  · rw [ub_o (by decide), ub_e]; exact rg_nI hw.1 hw.2 (by decide)
  · rw [ub_e]; exact rg_nI hh.1 hh.2 (by decide)
  · rw [o 2 (by decide) (by decide)]; exact wf.2.2.1
  · rw [o 3 (by decide) (by decide)]; exact wf.2.2.2.1
  · rw [o 4 (by decide) (by decide)]; exact wf.2.2.2.2.1
  · rw [e2] at hq; omega
  · rw [e2] at hq; omega
  · rw [e3] at hk; omega
  · rw [up_i (by decide), up_e, ub_o (by decide), ub_e]
  · rw [up_e, ub_e]
  · rw [g 2 (by decide), c.2.1.2.2.1, o 4 (by decide) (by decide)]
  · rw [g 3 (by decide), c.2.1.2.2.2.1, o 2 (by decide) (by decide)]
  · rw [g 7 (by decide), c.2.1.2.2.2.2.1, o 3 (by decide) (by decide)]
  · rw [g 15 (by decide), c.n15]
    unfold vset
    rw [h3, e3, orN_z, orN_z]
  · rw [g 16 (by decide), c.n16, o 5 (by decide) (by decide)]
  · rw [g 17 (by decide), c.n17, o 6 (by decide) (by decide)]
  · rw [e2] at hi; omega
  · rw [up_o (by omega), up_o (by omega), c.sh ht]
    unfold shal
    rw [h2, e2, orN_z, orN_z]
  · rw [e3] at hk; omega
theorem c52 {d : Nat} {Q : XQ} {S : XS} {I : XI} {J : XJ} {r : XR} {n s : Nat} {F B : Nat → Int32} {W : Nat → Int64} {t1 t2 : Bool} (hL : LAY S r) (hn : n ≤ 900) (hs : s ≤ n) (h : SC I J n F s B W t1 t2) (hQ : RC Q S I J r n F true t2 (sem F n (pSize F n s B W t1))) : xcall (d + 7) 52 [.ref 12, .ref 46] S I J r Q := by
  have h5 := lay5_13 hL
  have h0 := lay0_46 hL
  have hb2 := h.2.1.wf.r.2
  have hb3 := h.2.1.wf.c.2
  unfold pSize at hQ
  have bad : (t1 = true ∨ bn B 2 ≠ 0 ∨ bn B 3 ≠ 0) → xcall (d + 6) 53 [.ref 13, .int (nI 5)] S I J r (fun v S1 I1 J1 r1 => xrun z0 (xcall (d + 6)) Q 52 29 [.ref 12, .ref 46] (v.toList ++ []) S1 I1 J1 r1 0 0) := fun q => by
    rw [if_pos q] at hQ
    exact c53 (d := d + 5) h5 h.1 (K52_29 ⟨Or.inl rfl, RC.e hQ⟩)
  refine E52 hL h0 ?_
  rw [h.2.2.1, h.2.1.n3, h.2.1.n7]
  by_cases q1 : t1 = true
  · rw [b01_t q1]; exact yes (by decide) (bad (Or.inl q1))
  rw [b01_f (Bool.eq_false_iff.mpr q1)]
  refine nno rfl ?_
  by_cases q2 : bn B 2 = 0
  case neg => exact yes (by rw [show (0 : Int32) = nI 0 from rfl, nI_ltI (by decide) (by omega)]; omega) (bad (Or.inr (Or.inl q2)))
  refine no (by rw [q2]; decide) ?_
  by_cases q3 : bn B 3 = 0
  case neg => exact no (by rw [show (0 : Int32) = nI 0 from rfl, nI_leI (by omega) (by decide)]; omega) (bad (Or.inr (Or.inr q3)))
  rw [if_neg (fun h => h.elim q1 (fun h => h.elim (fun h => h q2) (fun h => h q3)))] at hQ
  have n1 := nxt_le (F := F) hs
  have n2 := nxt_le (F := F) n1.2.1
  have n3 := nxt_le (F := F) n2.2.1
  have n4 := nxt_le (F := F) n3.2.1
  have k1 : kf I (up2 I 12 1 (nI 1)) := (kf.r I).u (Or.inl rfl)
  have h1 : SC (up2 I 12 1 (nI 1)) J n F s B W true t2 := ⟨h.1.i (fun x hx => up_o (by omega)), h.2.1.fr (fun q q1 q2 => up_o (by omega)), up_e, by rw [up_i (by decide)]; exact h.2.2.2.1, by rw [up_o (by decide)]; exact h.2.2.2.2.1, by rw [up_o (by decide)]; exact h.2.2.2.2.2⟩
  refine yes (by rw [q3]; decide) (c36 h5 hn hs h1.1 (fun I2 J2 f1 f2 f3 => K52_42 hL ?_))
  have h2 := h1.a f1 f2 f3
  have hQ := hQ.x (k1.t f1.f) f2.j
  refine c54 h5 f3 (by decide) (by decide) (fun e q e6 l1 l2 => K52_52 hL h0 (yes (by decide) ?_)) (fun e => K52_52 hL h0 (nno rfl ?_))
  case refine_2 =>
    rw [pNum_e e] at hQ
    exact RC.e hQ
  rw [pNum_o e] at hQ
  rw [e6]
  have k2 : kf I2 (up2 I2 46 0 (nI (nm F n (nxt F n s)))) := (kf.r I2).u (by omega)
  refine c36 h5 hn n1.2.1 (f3.i (fun x hx => up_o (by omega))) (fun I3 J3 g1 g2 g3 => K52_75 hL ?_)
  have hQ := hQ.x (k2.t g1.f) g2.j
  refine c56k h5 hn n2.2.1 g3 (k := 1) (K := kBy) (by decide) (by decide +kernel) (fun e2 I4 J4 g4 g5 g6 => K52_84 hL (no (by decide) ?_)) (fun e2 => K52_84 hL (yes rfl ?_))
  case refine_2 =>
    rw [pWrd_e e2] at hQ
    exact RC.e hQ
  rw [pWrd_o e2] at hQ
  have hQ := hQ.x g4.f g5.j
  refine c54 h5 g6 (by decide) (by decide) (fun e3 q' e6' l3 l4 => K52_96 hL h0 (yes (by decide) ?_)) (fun e3 => K52_96 hL h0 (nno rfl ?_))
  case refine_2 =>
    rw [pNum_e e3] at hQ
    exact RC.e hQ
  rw [pNum_o e3] at hQ
  rw [e6']
  generalize hw : nm F n (nxt F n s) = w at *
  generalize hh : nm F n (nxt F n (nxt F n (nxt F n s))) = hv at *
  have k3 : kf I4 (up2 I4 46 1 (nI hv)) := (kf.r I4).u (by omega)
  have row : ∀ x, x ≠ 13 → I4 x = up2 I2 46 0 (nI w) x := fun x hx => (g4.row hx).trans (g1.row hx)
  have cr : CR (up2 I4 46 1 (nI hv)) J4 46 (ub (ub B 0 (nI w)) 1 (nI hv)) W := by
    have c0 := h2.2.1.sz q2 q3 ⟨l1, l2⟩ ⟨l3, l4⟩
    refine (CR.fr c0 (fun q q4 q5 => ?_)).j (funext fun i => (g5 50 i (by omega)).trans (g2 50 i (by omega)))
    by_cases e : q = 46
    · subst e; exact up_rowe (row 46 (by decide))
    · rw [up_o e, up_o e]; exact row q (by omega)
  have h4 : SC (up2 I4 46 1 (nI hv)) J4 n F (nxt F n (nxt F n (nxt F n s))) (ub (ub B 0 (nI w)) 1 (nI hv)) W true t2 := by
    refine ⟨g6.i (fun x hx => up_o (by omega)), cr, ?_, ?_, ?_, ?_⟩
    · rw [up_o (by decide), row 12 (by decide), up_o (by decide)]; exact h2.2.2.1
    · rw [up_o (by decide), row 12 (by decide), up_o (by decide)]; exact h2.2.2.2.1
    · rw [up_o (by decide), g4 13 8 (by omega), g1 13 8 (by omega), up_o (by decide)]; exact h2.2.2.2.2.1
    · rw [up_o (by decide), g4 13 9 (by omega), g1 13 9 (by omega), up_o (by decide)]; exact h2.2.2.2.2.2
  refine c36 h5 hn n3.2.1 h4.1 (fun I5 J5 p1 p2 p3 => K52_119 hL (xcall_imp (by omega) (c57s (d := d) hL hn n4.2.1 (h4.a p1 p2 p3) (RC.c (hQ.x (k3.t p1.f) p2.j) ?_)) (fun _ _ _ _ _ h => h)))
  intro b I' J' hb hq
  exact K52_126 (cu := 0) (su := 0) ⟨by rcases hb with rfl | rfl; exact Or.inl rfl; exact Or.inr rfl, hq⟩
