/-! a coast's text -/
abbrev CO := Except (Nat × Nat) (Nat × (Nat → Int32) × (Nat → Int64))
def pNum (F : Nat → Int32) (n s lo hi : Nat) (K : Nat → Nat → CO) : CO := if sN F n s lo hi = 0 then K (nm F n s) (nxt F n s) else .error (sN F n s lo hi, s)
def pWrd (F : Nat → Int32) (n s k : Nat) (K : Nat → CO) : CO := if isW F n s k = true then K (nxt F n s) else .error (am F n s, s)
def sem (F : Nat → Int32) (n : Nat) : CO → CO
  | .error e => .error e
  | .ok (s, B, W) => if isC F n s = true then .ok (nxt F n s, B, W) else .error (am F n s, s)
theorem pNum_o {F : Nat → Int32} {n s lo hi : Nat} {K : Nat → Nat → CO} (h : sN F n s lo hi = 0) : pNum F n s lo hi K = K (nm F n s) (nxt F n s) := if_pos h
theorem pNum_e {F : Nat → Int32} {n s lo hi : Nat} {K : Nat → Nat → CO} (h : sN F n s lo hi ≠ 0) : pNum F n s lo hi K = .error (sN F n s lo hi, s) := if_neg h
theorem pWrd_o {F : Nat → Int32} {n s k : Nat} {K : Nat → CO} (h : isW F n s k = true) : pWrd F n s k K = K (nxt F n s) := if_pos h
theorem pWrd_e {F : Nat → Int32} {n s k : Nat} {K : Nat → CO} (h : isW F n s k = false) : pWrd F n s k K = .error (am F n s, s) := if_neg (by rw [h]; decide)
theorem sem_o {F : Nat → Int32} {n s : Nat} {B : Nat → Int32} {W : Nat → Int64} (h : isC F n s = true) : sem F n (.ok (s, B, W)) = .ok (nxt F n s, B, W) := if_pos h
theorem sem_e {F : Nat → Int32} {n s : Nat} {B : Nat → Int32} {W : Nat → Int64} (h : isC F n s = false) : sem F n (.ok (s, B, W)) = .error (am F n s, s) := if_neg (by rw [h]; decide)
def pSize (F : Nat → Int32) (n s : Nat) (B : Nat → Int32) (W : Nat → Int64) (t1 : Bool) : CO :=
  if t1 = true ∨ bn B 2 ≠ 0 ∨ bn B 3 ≠ 0 then .error (5, s) else pNum F n (nxt F n s) 1 6 (fun w s2 => pWrd F n s2 kBy (fun s3 => pNum F n s3 1 5 (fun h s4 => .ok (s4, ub (ub B 0 (nI w)) 1 (nI h), W))))
def pOdds (F : Nat → Int32) (n s : Nat) (B : Nat → Int32) (W : Nat → Int64) (t2 : Bool) : CO :=
  if t2 = true then .error (5, s) else pNum F n (nxt F n s) 0 16 (fun o s2 => .ok (s2, ub B 4 (nI o), W))
def rkd (B : Nat → Int32) (c : Nat) : Bool := decide (∃ q, q < bn B 2 ∧ bn B (7 + q) = c)
def pRock (F : Nat → Int32) (n s : Nat) (B : Nat → Int32) (W : Nat → Int64) : CO :=
  if bn B 2 = 15 then .error (6, s) else pNum F n (nxt F n s) 0 (ce B - 1) (fun c s2 => if rkd B c = true then .error (5, nxt F n s) else pWrd F n s2 kDeep (fun s3 => pNum F n s3 0 9 (fun dp s4 => .ok (s4, rkB B (nI c) (nI dp), W))))
/-- the class's rows that reading leaves -/
def kf (I I' : XI) : Prop := ∀ x, (x < 12 ∨ (13 < x ∧ x < 46) ∨ 56 < x) → I' x = I x
def kj (J J' : XJ) : Prop := ∀ x, x ≠ 13 → x ≠ 50 → J' x = J x
theorem kf.r (I : XI) : kf I I := fun _ _ => rfl
theorem kj.r (J : XJ) : kj J J := fun _ _ _ => rfl
theorem kf.t {I I' I2 : XI} (h : kf I I') (h2 : kf I' I2) : kf I I2 := fun x q => (h2 x q).trans (h x q)
theorem kj.t {J J' J2 : XJ} (h : kj J J') (h2 : kj J' J2) : kj J J2 := fun x q q2 => (h2 x q q2).trans (h x q q2)
theorem kf.u {I I' : XI} {a i : Nat} {v : Int32} (h : kf I I') (ha : a = 12 ∨ a = 13 ∨ (46 ≤ a ∧ a ≤ 56)) : kf I (up2 I' a i v) := fun x q => by rw [up_o (by omega)]; exact h x q
theorem rk.f {I I' : XI} (h : rk 13 I I') : kf I I' := fun x q => funext fun i => h x i (by omega)
theorem rk.row {I I' : XI} {x : Nat} (h : rk 13 I I') (hx : x ≠ 13) : I' x = I x := funext fun i => h x i (by omega)
theorem jk.j {J J' : XJ} (h : jk 13 5 J J') : kj J J' := fun x q _ => funext fun i => h x i (by omega)
theorem frc.f {I I' : XI} (h : frc 46 I I') : kf I I' := fun x q => h x (by omega)
theorem CR.j {I : XI} {J J' : XJ} {a : Nat} {B : Nat → Int32} {W : Nat → Int64} (c : CR I J a B W) (h : J' (a + 4) = J (a + 4)) : CR I J' a B W := ⟨c.1, c.2.1, c.2.2.1, c.2.2.2.1, fun k hk => by rw [h]; exact c.2.2.2.2 k hk⟩
/-- the class's state on the way -/
def SC (I : XI) (J : XJ) (n : Nat) (F : Nat → Int32) (s : Nat) (B : Nat → Int32) (W : Nat → Int64) (t1 t2 : Bool) : Prop := RD I J 13 n F s ∧ CR I J 46 B W ∧ I 12 1 = b01 t1 ∧ I 12 2 = b01 t2 ∧ I 13 8 = nI 0 ∧ I 13 9 = -1
theorem SC.a {I I' : XI} {J J' : XJ} {n s s' : Nat} {F B : Nat → Int32} {W : Nat → Int64} {t1 t2 : Bool} (h : SC I J n F s B W t1 t2) (k : rk 13 I I') (j : jk 13 5 J J') (d : RD I' J' 13 n F s') : SC I' J' n F s' B W t1 t2 :=
  ⟨d, (h.2.1.fr (fun q h1 h2 => k.row (by omega))).j (funext fun i => j 50 i (by omega)), by rw [k.row (x := 12) (by decide)]; exact h.2.2.1, by rw [k.row (x := 12) (by decide)]; exact h.2.2.2.1, (k 13 8 (by omega)).trans h.2.2.2.2.1, (k 13 9 (by omega)).trans h.2.2.2.2.2⟩
theorem RD.i {I I' : XI} {J : XJ} {n s : Nat} {F : Nat → Int32} (h : RD I J 13 n F s) (k : ∀ x, x = 13 ∨ x = 14 → I' x = I x) : RD I' J 13 n F s := by
  unfold RD TX at *
  rw [k 13 (Or.inl rfl), k 14 (Or.inr rfl)]
  exact h
def RC (Q : XQ) (S : XS) (I : XI) (J : XJ) (r : XR) (n : Nat) (F : Nat → Int32) (t1 t2 : Bool) : CO → Prop
  | .error e => ∀ I' J', kf I I' → kj J J' → I' 13 8 = nI e.1 → I' 13 9 = nI e.2 → Q (some (.int (nI 0))) S I' J' r
  | .ok o => ∀ I' J', kf I I' → kj J J' → SC I' J' n F o.1 o.2.1 o.2.2 t1 t2 → Q (some (.int (nI 1))) S I' J' r
theorem RC.x {Q : XQ} {S : XS} {I I1 : XI} {J J1 : XJ} {r : XR} {n : Nat} {F : Nat → Int32} {t1 t2 : Bool} {o : CO} (h : RC Q S I J r n F t1 t2 o) (k : kf I I1) (j : kj J J1) : RC Q S I1 J1 r n F t1 t2 o := by
  cases o with
  | error e => exact fun I' J' f1 f2 => h I' J' (k.t f1) (j.t f2)
  | ok o => exact fun I' J' f1 f2 => h I' J' (k.t f1) (j.t f2)
theorem RC.e {Q : XQ} {S : XS} {I : XI} {J : XJ} {r : XR} {n k s : Nat} {F : Nat → Int32} {t1 t2 : Bool} (h : RC Q S I J r n F t1 t2 (.error (k, s))) : Q (some (.int (nI 0))) S (up2 (up2 I 13 8 (nI k)) 13 9 (nI s)) J r :=
  h _ _ (((kf.r I).u (by omega)).u (by omega)) (kj.r J) (by rw [up_i (by decide), up_e]) up_e
/-- the end of a part: a semicolon -/
theorem c57s {d : Nat} {Q : XQ} {S : XS} {I : XI} {J : XJ} {r : XR} {n s : Nat} {F B : Nat → Int32} {W : Nat → Int64} {t1 t2 : Bool} (hL : LAY S r) (hn : n ≤ 900) (hs : s ≤ n) (h : SC I J n F s B W t1 t2) (hQ : RC Q S I J r n F t1 t2 (sem F n (.ok (s, B, W)))) : xcall (d + 3) 57 [.ref 13] S I J r Q := by
  refine c57 (lay5_13 hL) hn hs h.1 (fun e I' J' f1 f2 f3 => ?_) (fun e => ?_)
  · rw [sem_o e] at hQ
    exact hQ I' J' f1.f f2.j (h.a f1 f2 f3)
  · rw [sem_e e] at hQ
    exact hQ.e
theorem CR.o {I : XI} {J : XJ} {a : Nat} {B : Nat → Int32} {W : Nat → Int64} {o : Nat} (c : CR I J a B W) (ho : o ≤ 16) : CR (up2 I a 2 (nI o)) J a (ub B 4 (nI o)) W :=
  c.of (fun j h1 h2 h3 h4 => ub_o h2) (c.wf.of (fun j h1 h2 h3 h4 => ub_o h2) (rg_nI (Nat.zero_le _) ho (by decide)) (fun k hk => by
    have hc := c.wf.c.2
    rw [ub_o (by omega), ub_o (by omega), ub_o (by omega)]
    exact (c.wf.pw hk).2.2.2))
    ⟨by rw [up_i (by decide)], by rw [up_i (by decide)], by rw [up_i (by decide)], by rw [up_i (by decide)]⟩ (fun q h1 h2 => up_o (by omega)) (by rw [up_e]; rfl) (by rw [up_i (by decide), c.n15]; exact (vset_cg (ub_o (by decide)) (fun k hk => ub_o (by have := c.wf.c.2; omega))).symm) (by rw [up_i (by decide), c.n16, ub_o (by decide)]) (by rw [up_i (by decide), c.n17, ub_o (by decide)]) (fun k hk => by rw [up_o (by omega), up_o (by omega), ub_o (by omega), ub_o (by omega)]; exact ⟨(c.2.2.2.2 k hk).2.2.2.2.2.1, (c.2.2.2.2 k hk).2.2.2.2.2.2⟩)
theorem c58 {d : Nat} {Q : XQ} {S : XS} {I : XI} {J : XJ} {r : XR} {n s : Nat} {F B : Nat → Int32} {W : Nat → Int64} {t1 t2 : Bool} (hL : LAY S r) (hn : n ≤ 900) (hs : s ≤ n) (h : SC I J n F s B W t1 t2) (hQ : RC Q S I J r n F t1 true (sem F n (pOdds F n s B W t2))) : xcall (d + 4) 58 [.ref 12, .ref 46] S I J r Q := by
  have h5 := lay5_13 hL
  unfold pOdds at hQ
  refine E58 hL ?_
  rw [h.2.2.2.1]
  cases t2
  case true =>
    rw [if_pos rfl] at hQ
    exact no (by decide) (c53 (d := d + 2) h5 h.1 (K58_15 ⟨Or.inl rfl, RC.e hQ⟩))
  rw [if_neg (by decide)] at hQ
  have n1 := nxt_le (F := F) hs
  have k1 : kf I (up2 I 12 2 (nI 1)) := (kf.r I).u (Or.inl rfl)
  have h1 : SC (up2 I 12 2 (nI 1)) J n F s B W t1 true := ⟨h.1.i (fun x hx => up_o (by omega)), h.2.1.fr (fun q q1 q2 => up_o (by omega)), by rw [up_i (by decide)]; exact h.2.2.1, up_e, by rw [up_o (by decide)]; exact h.2.2.2.2.1, by rw [up_o (by decide)]; exact h.2.2.2.2.2⟩
  refine yes rfl (c36 h5 hn hs h1.1 (fun I2 J2 f1 f2 f3 => K58_28 hL ?_))
  have h2 := h1.a f1 f2 f3
  have hQ := hQ.x (k1.t f1.f) f2.j
  refine c54 h5 f3 (by decide) (by decide) (fun e q e6 l1 l2 => K58_38 hL (lay0_46 hL) (yes (by decide) ?_)) (fun e => K58_38 hL (lay0_46 hL) (nno rfl ?_))
  · rw [pNum_o e] at hQ
    rw [e6]
    have k2 : kf I2 (up2 I2 46 2 (nI (nm F n (nxt F n s)))) := (kf.r I2).u (by omega)
    have h3 : SC (up2 I2 46 2 (nI (nm F n (nxt F n s)))) J2 n F (nxt F n s) (ub B 4 (nI (nm F n (nxt F n s)))) W t1 true := ⟨h2.1.i (fun x hx => up_o (by omega)), h2.2.1.o l2, by rw [up_o (by decide)]; exact h2.2.2.1, by rw [up_o (by decide)]; exact h2.2.2.2.1, by rw [up_o (by decide)]; exact h2.2.2.2.2.1, by rw [up_o (by decide)]; exact h2.2.2.2.2.2⟩
    have n2 := nxt_le (F := F) n1.2.1
    refine c36 h5 hn n1.2.1 h3.1 (fun I4 J4 g1 g2 g3 => K58_61 hL (c57s (d := d) hL hn n2.2.1 (h3.a g1 g2 g3) ?_))
    have hQ := hQ.x (k2.t g1.f) g2.j
    revert hQ
    generalize sem F n (Except.ok (nxt F n (nxt F n s), ub B 4 (nI (nm F n (nxt F n s))), W)) = o
    intro hQ
    cases o with
    | error e => exact fun I' J' a1 a2 a3 a4 => K58_68 ⟨Or.inl rfl, hQ I' J' a1 a2 a3 a4⟩
    | ok o => exact fun I' J' a1 a2 a3 => K58_68 ⟨Or.inr rfl, hQ I' J' a1 a2 a3⟩
  · rw [pNum_e e] at hQ
    exact RC.e hQ
