/-! the years' text -/
abbrev YY := Nat → Nat → Int32
abbrev YO := Except (Nat × Nat) (Nat × (Nat → Int32))
def qNum (F : Nat → Int32) (n s lo hi : Nat) (K : Nat → Nat → YO) : YO := if sN F n s lo hi = 0 then K (nm F n s) (nxt F n s) else .error (sN F n s lo hi, s)
def qCou (F : Nat → Int32) (n s N : Nat) (W : Nat → Int64) (K : Nat → Nat → YO) : YO := if isN F n s = false then .error (am F n s, s) else match nmf W (lN (wc F n s)) N 0 with
  | none => .error (3, s)
  | some k => K k (nxt F n s)
def qSem (F : Nat → Int32) (n : Nat) : YO → YO
  | .error e => .error e
  | .ok (s, y) => if isC F n s = true then .ok (nxt F n s, y) else .error (am F n s, s)
theorem qNum_o {F : Nat → Int32} {n s lo hi : Nat} {K : Nat → Nat → YO} (h : sN F n s lo hi = 0) : qNum F n s lo hi K = K (nm F n s) (nxt F n s) := if_pos h
theorem qNum_e {F : Nat → Int32} {n s lo hi : Nat} {K : Nat → Nat → YO} (h : sN F n s lo hi ≠ 0) : qNum F n s lo hi K = .error (sN F n s lo hi, s) := if_neg h
theorem qCou_1 {F : Nat → Int32} {n s N : Nat} {W : Nat → Int64} {K : Nat → Nat → YO} (h : isN F n s = false) : qCou F n s N W K = .error (am F n s, s) := if_pos h
theorem qCou_3 {F : Nat → Int32} {n s N : Nat} {W : Nat → Int64} {K : Nat → Nat → YO} (h : isN F n s = true) (e : nmf W (lN (wc F n s)) N 0 = none) : qCou F n s N W K = .error (3, s) := by
  unfold qCou
  rw [if_neg (by rw [h]; decide), e]
theorem qCou_o {F : Nat → Int32} {n s N k : Nat} {W : Nat → Int64} {K : Nat → Nat → YO} (h : isN F n s = true) (e : nmf W (lN (wc F n s)) N 0 = some k) : qCou F n s N W K = K k (nxt F n s) := by
  unfold qCou
  rw [if_neg (by rw [h]; decide), e]
theorem qSem_o {F : Nat → Int32} {n s : Nat} {y : Nat → Int32} (h : isC F n s = true) : qSem F n (.ok (s, y)) = .ok (nxt F n s, y) := if_pos h
theorem qSem_e {F : Nat → Int32} {n s : Nat} {y : Nat → Int32} (h : isC F n s = false) : qSem F n (.ok (s, y)) = .error (am F n s, s) := if_neg (by rw [h]; decide)
/-- a line: 0 kind, 1 whose, 2 first, 3 second, 4 third, 5 the other end -/
def yNew (k : Nat) : Nat → Int32 := fun f => if f = 0 then nI k else if f = 1 ∨ f = 5 then -1 else 0
def yPut (Y : YY) (l : Nat) (y : Nat → Int32) : YY := fun i => if i = l then y else Y i
theorem yPut_e {Y : YY} {l : Nat} {y : Nat → Int32} : yPut Y l y l = y := if_pos rfl
theorem yPut_o {Y : YY} {l i : Nat} {y : Nat → Int32} (h : i ≠ l) : yPut Y l y i = Y i := if_neg h
def clk (k : Nat) : Nat := if k < 8 then k + 1 else 19 - k
def yTest (F : Nat → Int32) (n s : Nat) (y : Nat → Int32) (N c : Nat) (W : Nat → Int64) : YO :=
  if isW F n s kShows = true then qCou F n (nxt F n s) N W (fun k s1 => qNum F n s1 0 (c - 1) (fun m s2 => .ok (s2, ub (ub (ub y 0 (nI 12)) 1 (nI k)) 2 (nI m))))
  else if isW F n s kTan = true then qCou F n (nxt F n s) N W (fun k s1 => if kd F n s1 = 3 ∧ F s1 ≠ nI 59 then qNum F n (nxt F n s1) 0 9 (fun m s2 => .ok (s2, ub (ub (ub (ub y 0 (nI 13)) 1 (nI k)) 3 (F s1)) 2 (nI m))) else .error (am F n s1, s1))
  else if isW F n s kVeiled = true then qCou F n (nxt F n s) N W (fun k s1 => .ok (s1, ub (ub y 0 (nI 14)) 1 (nI k)))
  else .error (am F n s, s)
def yRest (F : Nat → Int32) (n s : Nat) (y : Nat → Int32) (k N c : Nat) (W : Nat → Int64) : YO :=
  if k = 0 then qCou F n s N W (fun q s1 => qNum F n s1 1 9 (fun m s2 => .ok (s2, ub (ub y 1 (nI q)) 2 (nI m))))
  else if k = 1 then qNum F n s 1 9 (fun m s1 => .ok (s1, ub y 2 (nI m)))
  else if k = 2 ∨ k = 3 ∨ k = 5 then qCou F n s N W (fun q s1 => .ok (s1, ub y 1 (nI q)))
  else if k = 4 then qCou F n s N W (fun q s1 => qNum F n s1 0 (c - 1) (fun m s2 => .ok (s2, ub (ub y 1 (nI q)) 2 (nI m))))
  else if k = 6 then qCou F n s N W (fun q s1 => qNum F n s1 0 (c - 1) (fun m s2 => qNum F n s2 0 (c - 1) (fun m2 s3 => qNum F n s3 1 10 (fun m3 s4 => .ok (s4, ub (ub (ub (ub y 1 (nI q)) 2 (nI m)) 3 (nI m2)) 4 (nI m3))))))
  else if k = 8 then yTest F n s y N c W
  else if k = 9 then qNum F n s 1 99 (fun m s1 => .ok (s1, ub y 2 (nI m)))
  else .ok (s, y)
/-! the class's years: rows at a -/
def YA (I : XI) (a L T : Nat) (Y : YY) : Prop := I a 0 = 1 ∧ I a 1 = nI T ∧ I a 2 = nI L ∧ ∀ i, i < L → ∀ f, f < 6 → I (a + 1 + f) i = Y i f
theorem YA.w {I : XI} {a L T l f : Nat} {v : Int32} {Y : YY} {y : Nat → Int32} (h : YA I a L T (yPut Y l y)) (hf : f < 6) : YA (up2 I (a + 1 + f) l v) a L T (yPut Y l (ub y f v)) := by
  refine ⟨?_, ?_, ?_, fun i hi g hg => ?_⟩
  · rw [up_o (by omega)]; exact h.1
  · rw [up_o (by omega)]; exact h.2.1
  · rw [up_o (by omega)]; exact h.2.2.1
  · have h0 := h.2.2.2 i hi g hg
    by_cases e : i = l
    · subst e
      rw [yPut_e] at h0 ⊢
      by_cases e2 : g = f
      · subst e2; rw [up_e, ub_e]
      · rw [up_o (by omega), ub_o e2]; exact h0
    · rw [yPut_o e] at h0 ⊢
      by_cases e2 : g = f
      · subst e2; rw [up_i e]; exact h0
      · rw [up_o (by omega)]; exact h0
theorem YA.k {I I' : XI} {a L T : Nat} {Y : YY} (h : YA I a L T Y) (k : ∀ x, a ≤ x → x ≤ a + 6 → I' x = I x) : YA I' a L T Y := by
  refine ⟨?_, ?_, ?_, fun i hi g hg => ?_⟩
  · rw [k a (by omega) (by omega)]; exact h.1
  · rw [k a (by omega) (by omega)]; exact h.2.1
  · rw [k a (by omega) (by omega)]; exact h.2.2.1
  · rw [k _ (by omega) (by omega)]; exact h.2.2.2 i hi g hg
/-- the rows that reading years leaves -/
def yf (I I' : XI) : Prop := ∀ x, (x < 15 ∨ (18 < x ∧ x < 57) ∨ 63 < x) → I' x = I x
def yj (J J' : XJ) : Prop := ∀ x, x ≠ 16 → J' x = J x
theorem yf.r (I : XI) : yf I I := fun _ _ => rfl
theorem yj.r (J : XJ) : yj J J := fun _ _ => rfl
theorem yf.t {I I' I2 : XI} (h : yf I I') (h2 : yf I' I2) : yf I I2 := fun x q => (h2 x q).trans (h x q)
theorem yj.t {J J' J2 : XJ} (h : yj J J') (h2 : yj J' J2) : yj J J2 := fun x q => (h2 x q).trans (h x q)
theorem yf.u {I I' : XI} {a i : Nat} {v : Int32} (h : yf I I') (ha : (15 ≤ a ∧ a ≤ 18) ∨ (57 ≤ a ∧ a ≤ 63)) : yf I (up2 I' a i v) := fun x q => by rw [up_o (by omega)]; exact h x q
theorem rk.yf {I I' : XI} (h : rk 16 I I') : yf I I' := fun x q => funext fun i => h x i (by omega)
theorem rk.rw' {I I' : XI} {x : Nat} (h : rk 16 I I') (hx : x ≠ 16) : I' x = I x := funext fun i => h x i (by omega)
theorem jk.yj {J J' : XJ} (h : jk 16 5 J J') : yj J J' := fun x q => funext fun i => h x i (by omega)
/-- the class's state on the way -/
def SY (I : XI) (J : XJ) (n : Nat) (F : Nat → Int32) (s L T : Nat) (Y : YY) (q : Nat) (P : Nat → Nat) (B : Nat → Int32) (W : Nat → Int64) : Prop :=
  RD I J 16 n F s ∧ YA I 57 L T Y ∧ I 15 2 = nI q ∧ (∀ j, j < q → I 18 j = nI (P j)) ∧ I 16 8 = nI 0 ∧ I 16 9 = -1 ∧ CR I J 28 B W
theorem SY.a {I I' : XI} {J J' : XJ} {n s s' L T q : Nat} {F B : Nat → Int32} {Y : YY} {P : Nat → Nat} {W : Nat → Int64} (h : SY I J n F s L T Y q P B W) (k : rk 16 I I') (j : jk 16 5 J J') (d : RD I' J' 16 n F s') : SY I' J' n F s' L T Y q P B W :=
  ⟨d, h.2.1.k (fun x _ _ => k.rw' (by omega)), by rw [k.rw' (by decide)]; exact h.2.2.1, fun i hi => by rw [k.rw' (by decide)]; exact h.2.2.2.1 i hi, (k 16 8 (by omega)).trans h.2.2.2.2.1, (k 16 9 (by omega)).trans h.2.2.2.2.2.1, (h.2.2.2.2.2.2.fr (fun q h1 h2 => k.rw' (by omega))).j (funext fun i => j 32 i (by omega))⟩
theorem RD.i6 {I I' : XI} {J : XJ} {n s : Nat} {F : Nat → Int32} (h : RD I J 16 n F s) (k : ∀ x, x = 16 ∨ x = 17 → I' x = I x) : RD I' J 16 n F s := by
  unfold RD TX at *
  rw [k 16 (Or.inl rfl), k 17 (Or.inr rfl)]
  exact h
theorem SY.w {I : XI} {J : XJ} {n s L T q l f : Nat} {v : Int32} {F B y : Nat → Int32} {Y : YY} {P : Nat → Nat} {W : Nat → Int64} (h : SY I J n F s L T (yPut Y l y) q P B W) (hf : f < 6) : SY (up2 I (57 + 1 + f) l v) J n F s L T (yPut Y l (ub y f v)) q P B W :=
  ⟨h.1.i6 (fun x hx => up_o (by omega)), h.2.1.w hf, by rw [up_o (by omega)]; exact h.2.2.1, fun i hi => by rw [up_o (by omega)]; exact h.2.2.2.1 i hi, by rw [up_o (by omega)]; exact h.2.2.2.2.1, by rw [up_o (by omega)]; exact h.2.2.2.2.2.1, h.2.2.2.2.2.2.fr (fun q h1 h2 => up_o (by omega))⟩
def RY (Q : XQ) (S : XS) (I : XI) (J : XJ) (r : XR) (n : Nat) (F : Nat → Int32) (L T : Nat) (Y : YY) (l q : Nat) (P : Nat → Nat) (B : Nat → Int32) (W : Nat → Int64) : YO → Prop
  | .error e => ∀ I' J', yf I I' → yj J J' → I' 16 8 = nI e.1 → I' 16 9 = nI e.2 → Q (some (.int (nI 0))) S I' J' r
  | .ok o => ∀ I' J', yf I I' → yj J J' → SY I' J' n F o.1 L T (yPut Y l o.2) q P B W → Q (some (.int (nI 1))) S I' J' r
theorem RY.x {Q : XQ} {S : XS} {I I1 : XI} {J J1 : XJ} {r : XR} {n L T l q : Nat} {F B : Nat → Int32} {Y : YY} {P : Nat → Nat} {W : Nat → Int64} {o : YO} (h : RY Q S I J r n F L T Y l q P B W o) (k : yf I I1) (j : yj J J1) : RY Q S I1 J1 r n F L T Y l q P B W o := by
  cases o with
  | error e => exact fun I' J' f1 f2 => h I' J' (k.t f1) (j.t f2)
  | ok o => exact fun I' J' f1 f2 => h I' J' (k.t f1) (j.t f2)
theorem RY.e {Q : XQ} {S : XS} {I : XI} {J : XJ} {r : XR} {n L T l q k s : Nat} {F B : Nat → Int32} {Y : YY} {P : Nat → Nat} {W : Nat → Int64} (h : RY Q S I J r n F L T Y l q P B W (.error (k, s))) : Q (some (.int (nI 0))) S (up2 (up2 I 16 8 (nI k)) 16 9 (nI s)) J r :=
  h _ _ (((yf.r I).u (by omega)).u (by omega)) (yj.r J) (by rw [up_i (by decide), up_e]) up_e
theorem RY.c {Q Q' : XQ} {S : XS} {I : XI} {J : XJ} {r : XR} {n L T l q : Nat} {F B : Nat → Int32} {Y : YY} {P : Nat → Nat} {W : Nat → Int64} {o : YO} (h : RY Q S I J r n F L T Y l q P B W o) (k : ∀ b I J, (b = 0 ∨ b = 1) → Q (some (.int (nI b))) S I J r → Q' (some (.int (nI b))) S I J r) : RY Q' S I J r n F L T Y l q P B W o := by
  cases o with
  | error e => exact fun I' J' f1 f2 f3 f4 => k 0 _ _ (Or.inl rfl) (h I' J' f1 f2 f3 f4)
  | ok o => exact fun I' J' f1 f2 f3 => k 1 _ _ (Or.inr rfl) (h I' J' f1 f2 f3)
/-- whose -/
theorem c93 {d : Nat} {Q : XQ} {S : XS} {I : XI} {J : XJ} {r : XR} {Q' : XQ} {n s L T l q : Nat} {F B y : Nat → Int32} {Y : YY} {P : Nat → Nat} {W : Nat → Int64} {K : Nat → Nat → YO} (hL : LAY S r) (hn : n ≤ 900) (hs : s ≤ n) (hl : l < 60) (h : SY I J n F s L T (yPut Y l y) q P B W) (hQ : RY Q' S I J r n F L T Y l q P B W (qCou F n s (bn B 3) W K)) (he : ∀ I J, Q' (some (.int (nI 0))) S I J r → Q (some (.int (nI 0))) S I J r)
    (hT : ∀ k I' J', k < bn B 3 → yf I I' → yj J J' → SY I' J' n F (nxt F n s) L T (yPut Y l (ub y 1 (nI k))) q P B W → RY Q' S I' J' r n F L T Y l q P B W (K k (nxt F n s)) → Q (some (.int (nI 1))) S I' J' r) : xcall (d + 7) 93 [.ref 15, .ref 28, .ref 57, .int (nI l)] S I J r Q := by
  have h5 := lay5_16 hL
  have h0 := lay0_28 hL
  have hb3 := h.2.2.2.2.2.2.wf.c.2
  refine E93 hL (c63 (d := d) h5 h.1 (fun e => K93_7 hL h0 (yes (by decide) ?_)) (fun e => K93_7 hL h0 (nno rfl ?_)))
  · have ek := (isN_t.mp e).1
    rw [h.1.2.2.2.2.1 ek]
    refine c65 h0 h.2.2.2.2.2.2 (K93_23 hL (lay7_57 hL) ?_)
    cases e2 : nmf W (lN (wc F n s)) (bn B 3) 0 with
    | none =>
      rw [qCou_3 e e2] at hQ
      exact nno rfl (c53 (d := d + 5) h5 h.1 (K93_39 ⟨Or.inl rfl, he _ _ (RY.e hQ)⟩))
    | some k =>
      have := nmf_lt _ _ e2
      rw [qCou_o e e2] at hQ
      refine yes (nI_m1 (by omega)) ⟨vp_in_nI (by omega) (by decide), ?_⟩
      rw [nI_clamp (by omega)]
      have h1 := h.w (f := 1) (v := nI k) (by decide)
      have k1 : yf I (up2 I 59 l (nI k)) := (yf.r I).u (by omega)
      exact c36 h5 hn hs h1.1 (fun I2 J2 f1 f2 f3 => K93_55 (hT k I2 J2 (by omega) (k1.t f1.yf) f2.yj (h1.a f1 f2 f3) (hQ.x (k1.t f1.yf) f2.yj)))
  · rw [qCou_1 e] at hQ
    exact he _ _ (RY.e hQ)
/-- a number -/
theorem c94 {d : Nat} {Q : XQ} {S : XS} {I : XI} {J : XJ} {r : XR} {Q' : XQ} {n s L T l q lo hi f : Nat} {F B y : Nat → Int32} {Y : YY} {P : Nat → Nat} {W : Nat → Int64} {K : Nat → Nat → YO} (hL : LAY S r) (hn : n ≤ 900) (hs : s ≤ n) (hl : l < 60) (hf : f < 6) (h : SY I J n F s L T (yPut Y l y) q P B W) (hlo : lo < 1000000) (hhi : hi < 1000000) (hQ : RY Q' S I J r n F L T Y l q P B W (qNum F n s lo hi K)) (he : ∀ I J, Q' (some (.int (nI 0))) S I J r → Q (some (.int (nI 0))) S I J r)
    (hT : ∀ I' J', lo ≤ nm F n s → nm F n s ≤ hi → yf I I' → yj J J' → SY I' J' n F (nxt F n s) L T (yPut Y l (ub y f (nI (nm F n s)))) q P B W → RY Q' S I' J' r n F L T Y l q P B W (K (nm F n s) (nxt F n s)) → Q (some (.int (nI 1))) S I' J' r) : xcall (d + 3) 94 [.ref 15, .ref (57 + 1 + f), .int (nI l), .int (nI lo), .int (nI hi)] S I J r Q := by
  have h5 := lay5_16 hL
  have hT1 : S[57 + 1 + f]? = some (100, 60) := by
    have h7 := lay7_57 hL
    rcases (by omega : f = 0 ∨ f = 1 ∨ f = 2 ∨ f = 3 ∨ f = 4 ∨ f = 5) with rfl | rfl | rfl | rfl | rfl | rfl
    · exact h7.s3
    · exact h7.s4
    · exact h7.s5
    · exact h7.s6
    · exact h7.s7
    · exact h7.s8
  refine E94 hL (c54 (d := d) h5 h.1 hlo hhi (fun e q e6 l1 l2 => K94_10 hL hT1 (yes (by decide) ⟨vp_in_nI (by omega) (by omega), ?_⟩)) (fun e => K94_10 hL hT1 (nno rfl ?_)))
  · rw [nI_clamp (by omega), e6]
    rw [qNum_o e] at hQ
    have h1 := h.w (f := f) (v := nI (nm F n s)) hf
    have k1 : yf I (up2 I (57 + 1 + f) l (nI (nm F n s))) := (yf.r I).u (by omega)
    exact c36 h5 hn hs h1.1 (fun I2 J2 f1 f2 f3 => K94_32 (hT I2 J2 l1 l2 (k1.t f1.yf) f2.yj (h1.a f1 f2 f3) (hQ.x (k1.t f1.yf) f2.yj)))
  · rw [qNum_e e] at hQ
    exact he _ _ (RY.e hQ)
