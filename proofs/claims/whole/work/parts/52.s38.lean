/-! the reference's reader -/
def mk (I I' : XI) : Prop := ∀ x i, ¬ (x = 65 ∧ 14 ≤ i ∧ i ≤ 18) → I' x i = I x i
theorem mk.r (I : XI) : mk I I := fun _ _ _ => rfl
theorem mk.t {I I' I2 : XI} (h : mk I I') (h2 : mk I' I2) : mk I I2 := fun x i q => (h2 x i q).trans (h x i q)
theorem mk.u {i : Nat} {v : Int32} {I I' : XI} (h : mk I I') (hi : 14 ≤ i ∧ i ≤ 18) : mk I (up2 I' 65 i v) := fun x k q => by
  unfold up2
  by_cases e : x = 65
  · rw [if_pos e, if_neg (fun e2 => q ⟨e, by rw [e2]; exact hi⟩)]; exact h x k q
  · rw [if_neg e]; exact h x k q
def TT (I : XI) (n : Nat) (F : Nat → Int32) : Prop := I 65 9 = nI n ∧ (∀ i, i < n → I 69 i = F i) ∧ ∀ i, i < n → -128 ≤ (F i).toInt ∧ (F i).toInt ≤ 127
theorem TT.k {I I' : XI} {n : Nat} {F : Nat → Int32} (h : TT I n F) (k : mk I I') : TT I' n F := ⟨(k 65 9 (by omega)).trans h.1, fun i hi => (k 69 i (by omega)).trans (h.2.1 i hi), h.2.2⟩
theorem b255 {x : Int32} (h1 : -128 ≤ x.toInt) (h2 : x.toInt ≤ 127) : ∃ k : Nat, (x &&& nI 255) = nI k ∧ (0 ≤ x.toInt → x.toInt = k ∧ k ≤ 127) ∧ (x.toInt < 0 → 128 ≤ k ∧ k < 256) := by
  rcases (by omega : x.toInt < 0 ∨ 0 ≤ x.toInt) with q | q
  · obtain ⟨m, hm⟩ : ∃ m : Nat, x.toInt = -(m : Int) := ⟨x.toInt.natAbs, by omega⟩
    have a1 : ∀ m, m ≤ 128 → 1 ≤ m → ((-(nI m)) &&& nI 255 = nI (256 - m)) ∧ (-(nI m)).toInt = -(m : Int) := by decide +kernel
    have a2 := a1 m (by omega) (by omega)
    have e : x = -(nI m) := Int32.toInt_inj.mp (by rw [a2.2, hm])
    exact ⟨256 - m, by rw [e]; exact a2.1, fun h => by omega, fun _ => by omega⟩
  · obtain ⟨k, hk, e, e2⟩ := i_in (x := x) (n := 128) q (by omega)
    have a1 : ∀ m, m < 128 → nI m &&& nI 255 = nI m := by decide +kernel
    exact ⟨k, by rw [e]; exact a1 k hk, fun _ => by omega, fun h => by omega⟩
/-- the byte looked at -/
def lk (F : Nat → Int32) (n p : Nat) : Nat := if n ≤ p then 0 else (F p &&& nI 255).toNatClampNeg
theorem lk_p {I : XI} {n p : Nat} {F : Nat → Int32} (t : TT I n F) (hp : p < n) : (F p &&& nI 255) = nI (lk F n p) ∧ lk F n p < 256 ∧ (0 ≤ bv F p → bv F p = lk F n p) ∧ (bv F p < 0 → 128 ≤ lk F n p) := by
  obtain ⟨k, h1, h2, h3⟩ := b255 (t.2.2 p hp).1 (t.2.2 p hp).2
  have hk : k < 256 := by omega
  have e : lk F n p = k := by unfold lk; rw [if_neg (by omega), h1, nI_clamp (by omega)]
  rw [e]
  unfold bv
  exact ⟨h1, hk, fun h => (h2 h).1, fun h => (h3 h).1⟩
theorem lk_lt {I : XI} {n p : Nat} {F : Nat → Int32} (t : TT I n F) : lk F n p < 256 := by
  by_cases q : n ≤ p
  · unfold lk; rw [if_pos q]; decide
  · exact (lk_p t (by omega)).2.1
theorem lk_L {I : XI} {n p : Nat} {F : Nat → Int32} (t : TT I n F) : (97 ≤ lk F n p ∧ lk F n p ≤ 122) ↔ (p < n ∧ isL F p = true) := by
  by_cases q : n ≤ p
  · unfold lk; rw [if_pos q]; omega
  · have := lk_p t (p := p) (by omega)
    rw [isL_t]
    rcases (by omega : bv F p < 0 ∨ 0 ≤ bv F p) with h | h
    · have := this.2.2.2 h; omega
    · have := this.2.2.1 h; omega
theorem lk_D {I : XI} {n p : Nat} {F : Nat → Int32} (t : TT I n F) : (48 ≤ lk F n p ∧ lk F n p ≤ 57) ↔ (p < n ∧ isD F p = true) := by
  by_cases q : n ≤ p
  · unfold lk; rw [if_pos q]; omega
  · have := lk_p t (p := p) (by omega)
    rw [isD_t]
    rcases (by omega : bv F p < 0 ∨ 0 ≤ bv F p) with h | h
    · have := this.2.2.2 h; omega
    · have := this.2.2.1 h; omega
theorem lk_B {I : XI} {n p : Nat} {F : Nat → Int32} (t : TT I n F) (hp : p < n) : (lk F n p = 32 ∨ lk F n p = 10) ↔ isB F p = true := by
  have := lk_p t hp
  rw [isB_t]
  rcases (by omega : bv F p < 0 ∨ 0 ≤ bv F p) with h | h
  · have := this.2.2.2 h; omega
  · have := this.2.2.1 h; omega
theorem lk_S {I : XI} {n p : Nat} {F : Nat → Int32} (t : TT I n F) (hp : p < n) : (lk F n p = 59 ∨ lk F n p = 60 ∨ lk F n p = 62 ∨ lk F n p = 61) ↔ isS F p = true := by
  have := lk_p t hp
  rw [isS_t]
  rcases (by omega : bv F p < 0 ∨ 0 ≤ bv F p) with h | h
  · have := this.2.2.2 h; omega
  · have := this.2.2.1 h; omega
theorem lk_lv {I : XI} {n p : Nat} {F : Nat → Int32} (t : TT I n F) (hp : p < n) (h : 0 ≤ bv F p) : lk F n p = lv F p := by
  have h1 := (lk_p t hp).2.2.1 h
  have h2 := (lv_t h).1
  omega
theorem r208 {d : Nat} {Q : XQ} {S : XS} {I : XI} {J : XJ} {r : XR} {n p : Nat} {F : Nat → Int32} (hL : LAY S r) (t : TT I n F) (hn : n ≤ 900) (hp : p ≤ 1000) (hQ : Q (some (.int (nI (lk F n p)))) S I J r) : xcall (d + 1) 208 [.ref 65, .int (nI p)] S I J r Q := by
  refine E208 hL ?_
  rw [t.1, nI_leI (by omega) (by omega)]
  by_cases q : n ≤ p
  · refine yes q ?_
    unfold lk at hQ
    rw [if_pos q] at hQ
    exact hQ
  · refine no q ⟨vp_in_nI (by omega) (by decide), ?_⟩
    rw [nI_clamp (by omega), t.2.1 p (by omega), (lk_p t (p := p) (by omega)).1]
    exact hQ
theorem r209 {d : Nat} {Q : XQ} {S : XS} {I : XI} {J : XJ} {r : XR} {x : Nat} (hx : x < 256) (hT : 97 ≤ x ∧ x ≤ 122 → Q (some (.int (nI 1))) S I J r) (hF : ¬ (97 ≤ x ∧ x ≤ 122) → Q (some (.int (nI 0))) S I J r) : xcall (d + 1) 209 [.int (nI x)] S I J r Q := by
  refine E209 ?_
  rw [nI_ltI (by omega) (by decide), nI_ltI (by decide) (by omega)]
  by_cases q : x < 97
  · exact yes q (hF (by omega))
  · refine no q ?_
    by_cases q2 : 122 < x
    · exact yes q2 (hF (by omega))
    · exact no q2 (hT (by omega))
theorem r210 {d : Nat} {Q : XQ} {S : XS} {I : XI} {J : XJ} {r : XR} {x : Nat} (hx : x < 256) (hT : 48 ≤ x ∧ x ≤ 57 → Q (some (.int (nI 1))) S I J r) (hF : ¬ (48 ≤ x ∧ x ≤ 57) → Q (some (.int (nI 0))) S I J r) : xcall (d + 1) 210 [.int (nI x)] S I J r Q := by
  refine E210 ?_
  rw [nI_ltI (by omega) (by decide), nI_ltI (by decide) (by omega)]
  by_cases q : x < 48
  · exact yes q (hF (by omega))
  · refine no q ?_
    by_cases q2 : 57 < x
    · exact yes q2 (hF (by omega))
    · exact no q2 (hT (by omega))
theorem r211 {d : Nat} {Q : XQ} {S : XS} {I : XI} {J : XJ} {r : XR} {x : Nat} (hx : x < 256) (hT : (x = 59 ∨ x = 60 ∨ x = 62 ∨ x = 61) → Q (some (.int (nI 1))) S I J r) (hF : ¬ (x = 59 ∨ x = 60 ∨ x = 62 ∨ x = 61) → Q (some (.int (nI 0))) S I J r) : xcall (d + 1) 211 [.ref 65, .int (nI x)] S I J r Q := by
  refine E211 ?_
  rw [nI_eqI (by omega) (by decide), nI_eqI (by omega) (by decide), nI_eqI (by omega) (by decide), nI_eqI (by omega) (by decide)]
  by_cases q1 : x = 59
  · exact yes q1 (hT (by omega))
  · refine no q1 ?_
    by_cases q2 : x = 60
    · exact yes q2 (hT (by omega))
    · refine no q2 ?_
      by_cases q3 : x = 62
      · exact yes q3 (hT (by omega))
      · refine no q3 ?_
        by_cases q4 : x = 61
        · exact nno q4 (hT (by omega))
        · exact yes q4 (hF (by omega))
