/-! what no answer hangs on; how queries end -/
def scr (q i : Nat) : Bool := (q == 0 && i == 13) || (q == 65 && !(i == 8 || i == 10 || i == 11 || i == 23 || i == 32)) || (Nat.ble 12 q && Nat.ble q 26) || (Nat.ble 46 q && Nat.ble q 63) || q == 71 || q == 73
def ix (I I' : XI) : Prop := ∀ q i, scr q i = false → I' q i = I q i
theorem ix.r (I : XI) : ix I I := fun _ _ _ => rfl
theorem ix.u {I I' : XI} {q i : Nat} {v : Int32} (h : ix I I') (hs : scr q i = true) : ix I (up2 I' q i v) := fun p j hp => by
  unfold up2
  split
  · rename_i e; subst e
    split
    · rename_i e; subst e; rw [hp] at hs; cases hs
    · exact h _ _ hp
  · exact h _ _ hp
theorem ix.t {I I' I2 : XI} (h : ix I I') (h2 : ix I' I2) : ix I I2 := fun q i hq => (h2 q i hq).trans (h q i hq)
theorem ix.q {I I' : XI} (h : ix I I') (q : Nat) (hs : ∀ i, scr q i = false) : I' q = I q := funext fun i => h q i (hs i)
theorem ix.b {I I' : XI} (h : ix I I') : I' 70 = I 70 := h.q 70 (fun _ => rfl)
theorem ix.of {I I' : XI} {P : Nat → Prop} (h : ∀ q, ¬ P q → I' q = I q) (hs : ∀ q, P q → ∀ i, scr q i = true) : ix I I' := fun q i hq => by
  by_cases hp : P q
  · rw [hs q hp i] at hq; cases hq
  · rw [h q hp]
theorem fr3.ix {I I' : XI} {p : Nat} (h : fr3 p I I') (hp : p = 19 ∨ p = 23) : ix I I' := ix.of (P := fun q => p ≤ q ∧ q ≤ p + 2) (fun q hq => h q (by omega)) (fun q hq i => by
  have : q = 19 ∨ q = 20 ∨ q = 21 ∨ q = 23 ∨ q = 24 ∨ q = 25 := by omega
  rcases this with rfl | rfl | rfl | rfl | rfl | rfl <;> rfl)
theorem f73.ix {I I' : XI} (h : f73 I I') : ix I I' := ix.of (P := fun q => q = 73) (fun q hq => h q hq) (fun q hq i => by subst hq; rfl)
theorem ix.cr {I I' : XI} {J : XJ} {B : Nat → Int32} {W : Nat → Int64} (h : ix I I') (c : CR I J 28 B W) : CR I' J 28 B W := c.fr (fun q h1 h2 => h.q q (fun i => by
  have : q = 28 ∨ q = 29 ∨ q = 30 ∨ q = 31 ∨ q = 32 ∨ q = 33 ∨ q = 34 ∨ q = 35 ∨ q = 36 ∨ q = 37 ∨ q = 38 := by omega
  rcases this with rfl | rfl | rfl | rfl | rfl | rfl | rfl | rfl | rfl | rfl | rfl <;> rfl))
/-- the class's end of a query: status s, answer v -/
def QC (Q : XQ) (S : XS) (I : XI) (J : XJ) (r : XR) (s : Nat) (v : Int32) : Prop := ∀ I', ix I I' → I' 0 13 = nI s → Q (some (.int v)) S I' J r
/-- the reference's -/
def QM (Q : XQ) (S : XS) (I : XI) (J : XJ) (r : XR) (s : Nat) (v : Int32) : Prop := ∀ I', ix I I' → I' 0 13 = I 0 13 → I' 65 0 = nI s → Q (some (.int v)) S I' J r
theorem QC.e {Q : XQ} {S : XS} {I I1 : XI} {J : XJ} {r : XR} {s : Nat} {v : Int32} (h : QC Q S I J r s v) (h2 : ix I I1) : Q (some (.int v)) S (up2 I1 0 13 (nI s)) J r := h _ (h2.u rfl) up_e
theorem QC.x {Q : XQ} {S : XS} {I I1 : XI} {J : XJ} {r : XR} {s : Nat} {v : Int32} (h : QC Q S I J r s v) (h2 : ix I I1) : QC Q S I1 J r s v := fun I' h3 h4 => h I' (h2.t h3) h4
theorem QM.e {Q : XQ} {S : XS} {I I1 : XI} {J : XJ} {r : XR} {s : Nat} {v : Int32} (h : QM Q S I J r s v) (h2 : ix I I1) (h3 : I1 0 13 = I 0 13) : Q (some (.int v)) S (up2 I1 65 0 (nI s)) J r := h _ (h2.u rfl) (by rw [up_o (by decide)]; exact h3) up_e
/-- the reference's entry: its two marks of a call -/
abbrev m2 (I : XI) : XI := up2 (up2 I 65 1 (nI 0)) 65 0 (nI 0)
theorem m2.ix (I : XI) : ix I (m2 I) := ((ix.r I).u rfl).u rfl
theorem QM.z {Q : XQ} {S : XS} {I : XI} {J : XJ} {r : XR} {v : Int32} (h : QM Q S I J r 0 v) : Q (some (.int v)) S (m2 I) J r := h _ (m2.ix I) rfl rfl
theorem QM.r {Q : XQ} {S : XS} {I : XI} {J : XJ} {r : XR} {s : Nat} {v : Int32} (h : QM Q S I J r s v) : Q (some (.int v)) S (up2 (m2 I) 65 0 (nI s)) J r := h.e (m2.ix I) rfl
/-- in a range -/
abbrev okx (x : Int32) (n : Nat) : Prop := 0 ≤ x.toInt ∧ x.toInt < (n : Int)
theorem okx_nI {k n : Nat} (h : k < n) (hn : n ≤ 2147483648) : okx (nI k) n := by
  show 0 ≤ (nI k).toInt ∧ (nI k).toInt < _
  rw [i_toI (by omega)]; omega
theorem okx_is {x : Int32} {n : Nat} (h : okx x n) : ∃ k, k < n ∧ x = nI k ∧ x.toNatClampNeg = k := by
  obtain ⟨k, h1, h2, h3⟩ := i_in h.1 h.2
  refine ⟨k, h1, h2, ?_⟩
  have := nI_cases x
  rcases this with q | ⟨j, q1, q2, q3⟩
  · omega
  · rw [q2, nI_clamp q1]; omega
theorem bt_nI {s i : Nat} (h : s < 4294967296) : bt (nI s) i = s.testBit i := by
  unfold bt
  rw [← BitVec.testBit_toNat, pk_tn h]
theorem bt_nI_hi {s i n : Nat} (h : s < 2 ^ n) (hn : n ≤ i) (h32 : n ≤ 32) : bt (nI s) i = false := by
  have h1 : (2 : Nat) ^ n ≤ 2 ^ 32 := Nat.pow_le_pow_right (by decide) h32
  rw [bt_nI (by omega)]
  exact Nat.testBit_lt_two_pow (Nat.lt_of_lt_of_le h (Nat.pow_le_pow_right (by decide) hn))
theorem ct_30 {x : Int32} (h : ∀ i, 30 ≤ i → i < 32 → bt x i = false) : ctN x 32 = ctN x 30 := ctN_top h 32 (by decide) (by decide)
theorem ct_set {s : Nat} (h : s < 64) : ctN (nI s) 32 = ctN (nI s) 30 := ct_30 (fun i h1 h2 => bt_nI_hi (n := 6) h (by omega) (by decide))
/-! charts -/
def q136 (B : Nat → Int32) (x : Int32) : Nat × Int32 := if okx x (2 ^ bn B 3) then (0, cha B x) else (5, -1)
theorem c136 {d : Nat} {Q : XQ} {S : XS} {I : XI} {J : XJ} {r : XR} {x : Int32} {B : Nat → Int32} {W : Nat → Int64} (hL : LAY S r) (c : CR I J 28 B W) (hQ : QC Q S I J r (q136 B x).1 (q136 B x).2) : xcall (d + 3) 136 [.ref 0, .int x] S I J r Q := by
  have hp := pow_le c.wf.c.2
  refine E136 hL (c120 (lay0_28 hL) c.n7 c.wf.c.2 (fun s h1 h2 => ?_) (fun h => ?_))
  · rw [q136, if_pos (by rw [h2]; exact okx_nI h1 (by omega))] at hQ
    exact K136_8 hL (no (by decide) (c123 (lay0_28 hL) c (K136_20 hL (E83 hL (K136_23 (K136_31 (hQ.e (ix.r I))))))))
  · rw [q136, if_neg h] at hQ
    exact K136_8 hL (yes rfl (E31 hL (K136_31 (hQ.e (ix.r I)))))
theorem r302 {d : Nat} {Q : XQ} {S : XS} {I : XI} {J : XJ} {r : XR} {x : Int32} (hL : LAY S r) (w : WF (I 70)) (hQ : QM Q S I J r (q136 (I 70) x).1 (q136 (I 70) x).2) : xcall (d + 5) 302 [.ref 65, .int x] S I J r Q := by
  refine E302 hL (r291 hL w (fun h1 h2 => ?_) (fun h => ?_))
  · rw [q136, if_pos ⟨h1, h2⟩] at hQ
    exact K302_15 hL (no (by decide) (r296 hL w (K302_23 (K302_31 hQ.z))))
  · rw [q136, if_neg (by exact h)] at hQ
    exact K302_15 hL (yes rfl (E261 hL (K302_31 hQ.r)))
def q137 (B : Nat → Int32) (x : Int32) : Nat × Int32 := if okx x (2 ^ bn B 3) then (0, ope B x) else (5, -1)
theorem c137 {d : Nat} {Q : XQ} {S : XS} {I : XI} {J : XJ} {r : XR} {x : Int32} {B : Nat → Int32} {W : Nat → Int64} (hL : LAY S r) (c : CR I J 28 B W) (hQ : QC Q S I J r (q137 B x).1 (q137 B x).2) : xcall (d + 5) 137 [.ref 0, .int x] S I J r Q := by
  have hp := pow_le c.wf.c.2
  refine E137 hL (c120 (lay0_28 hL) c.n7 c.wf.c.2 (fun s h1 h2 => ?_) (fun h => ?_))
  · rw [q137, if_pos (by rw [h2]; exact okx_nI h1 (by omega))] at hQ
    exact K137_8 hL (no (by decide) (c122 (lay0_28 hL) c (K137_20 hL (E83 hL (K137_23 (K137_31 (hQ.e (ix.r I))))))))
  · rw [q137, if_neg h] at hQ
    exact K137_8 hL (yes rfl (E31 hL (K137_31 (hQ.e (ix.r I)))))
theorem r303 {d : Nat} {Q : XQ} {S : XS} {I : XI} {J : XJ} {r : XR} {x : Int32} (hL : LAY S r) (w : WF (I 70)) (hQ : QM Q S I J r (q137 (I 70) x).1 (q137 (I 70) x).2) : xcall (d + 6) 303 [.ref 65, .int x] S I J r Q := by
  refine E303 hL (r291 hL w (fun h1 h2 => ?_) (fun h => ?_))
  · rw [q137, if_pos ⟨h1, h2⟩] at hQ
    exact K303_15 hL (no (by decide) (r295 hL w (K303_23 (K303_31 hQ.z))))
  · rw [q137, if_neg (by exact h)] at hQ
    exact K303_15 hL (yes rfl (E261 hL (K303_31 hQ.r)))
/-! voyages -/
def vo (B : Nat → Int32) (s f t dr : Int32) : Nat := if okx f (ce B) ∧ okx t (ce B) then (if okx s (2 ^ bn B 3) ∧ (1 ≤ dr.toInt ∧ dr.toInt ≤ 10) then 0 else 5) else 2
theorem vo_le {B : Nat → Int32} {s f t dr : Int32} : vo B s f t dr < 6 := by unfold vo; split; split <;> omega; omega
theorem vo_0 {B : Nat → Int32} {s f t dr : Int32} (h : vo B s f t dr = 0) : okx f (ce B) ∧ okx t (ce B) ∧ okx s (2 ^ bn B 3) ∧ 1 ≤ dr.toInt ∧ dr.toInt ≤ 10 := by
  unfold vo at h
  split at h
  · rename_i h1
    split at h
    · rename_i h2; exact ⟨h1.1, h1.2, h2.1, h2.2⟩
    · cases h
  · cases h
theorem c119 {d : Nat} {Q : XQ} {S : XS} {I : XI} {J : XJ} {r : XR} {s f t dr : Int32} {B : Nat → Int32} {W : Nat → Int64} (hL : LAY S r) (c : CR I J 28 B W) (hQ : Q (some (.int (nI (vo B s f t dr)))) S I J r) : xcall (d + 3) 119 [.ref 0, .int s, .int f, .int t, .int dr] S I J r Q := by
  have hp := pow_le c.wf.c.2
  have hN := ce_le c.wf
  unfold vo at hQ
  refine E119 hL (c76 (lay0_28 hL) c (fun k h1 h2 => K119_8 hL (no (by decide) (c76 (lay0_28 hL) c (fun k' h3 h4 => K119_19 hL (f1 (c120 (lay0_28 hL) c.n7 c.wf.c.2 (fun s' h5 h6 => ?_) (fun h => ?_)))) (fun h => ?_)))) (fun h => ?_))
  · have hf : okx f (ce B) := by rw [h2]; exact okx_nI h1 (by omega)
    have ht : okx t (ce B) := by rw [h4]; exact okx_nI h3 (by omega)
    have hs : okx s (2 ^ bn B 3) := by rw [h6]; exact okx_nI h5 (by omega)
    rw [if_pos ⟨hf, ht⟩] at hQ
    have e1' : (nI 1).toInt = 1 := rfl
    have e10 : (nI 10).toInt = 10 := rfl
    refine K119_32 (no (by decide) (c101 (fun h7 h8 => K119_43 (no (by decide) (no (by decide) ?_))) (fun h => K119_43 (yes rfl (yes rfl ?_)))))
    · rw [if_pos ⟨hs, by omega, by omega⟩] at hQ; exact hQ
    · rw [if_neg (fun q => h (by omega))] at hQ; exact hQ
  · have hf : okx f (ce B) := by rw [h2]; exact okx_nI h1 (by omega)
    have ht : okx t (ce B) := by rw [h4]; exact okx_nI h3 (by omega)
    rw [if_pos ⟨hf, ht⟩, if_neg (fun q => h q.1)] at hQ
    exact K119_32 (yes rfl (yes rfl hQ))
  · rw [if_neg (fun q => h q.2)] at hQ
    exact K119_19 hL (nno rfl hQ)
  · rw [if_neg (fun q => h q.1)] at hQ
    exact K119_8 hL (yes rfl hQ)
theorem r290 {d : Nat} {Q : XQ} {S : XS} {I : XI} {J : XJ} {r : XR} {s f t : Int32} (hL : LAY S r) (w : WF (I 70)) (hQ : Q (some (.int (nI (vo (I 70) s f t (nI 1))))) S I J r) : xcall (d + 3) 290 [.ref 65, .int s, .int f, .int t] S I J r Q := by
  have e1' : (nI 1).toInt = 1 := rfl
  unfold vo at hQ
  refine E290 hL (r267 hL w (fun h1 h2 => K290_5 hL (no (by decide) (r267 hL w (fun h3 h4 => K290_13 hL (f1 (r291 hL w (fun h5 h6 => ?_) (fun h => ?_)))) (fun h => ?_)))) (fun h => ?_))
  · rw [if_pos ⟨⟨h1, h2⟩, h3, h4⟩, if_pos ⟨⟨h5, h6⟩, by omega, by omega⟩] at hQ
    exact K290_25 (no (by decide) hQ)
  · rw [if_pos ⟨⟨h1, h2⟩, h3, h4⟩, if_neg (fun q => h q.1)] at hQ
    exact K290_25 (yes rfl hQ)
  · rw [if_neg (fun q => h q.2)] at hQ
    exact K290_13 hL (nno rfl hQ)
  · rw [if_neg (fun q => h q.1)] at hQ
    exact K290_5 hL (yes rfl hQ)
theorem vo_1 {B : Nat → Int32} {s f t dr : Int32} : vo B s f t dr = if vo B s f t (nI 1) ≠ 0 then vo B s f t (nI 1) else if 1 ≤ dr.toInt ∧ dr.toInt ≤ 10 then 0 else 5 := by
  have e1' : (nI 1).toInt = 1 := rfl
  by_cases h1 : okx f (ce B) ∧ okx t (ce B)
  · by_cases h2 : okx s (2 ^ bn B 3)
    · have e : vo B s f t (nI 1) = 0 := by unfold vo; rw [if_pos h1, if_pos ⟨h2, by omega, by omega⟩]
      rw [e, if_neg (fun q => q rfl)]
      unfold vo
      rw [if_pos h1]
      by_cases h3 : 1 ≤ dr.toInt ∧ dr.toInt ≤ 10
      · rw [if_pos ⟨h2, h3⟩, if_pos h3]
      · rw [if_neg (fun q => h3 q.2), if_neg h3]
    · have e : ∀ x, vo B s f t x = 5 := fun x => by unfold vo; rw [if_pos h1, if_neg (fun q => h2 q.1)]
      rw [e, e, if_pos (by decide)]
  · have e : ∀ x, vo B s f t x = 2 := fun x => by unfold vo; rw [if_neg h1]
    rw [e, e, if_pos (by decide)]
theorem r289 {d : Nat} {Q : XQ} {S : XS} {I : XI} {J : XJ} {r : XR} {s f t dr : Int32} (hL : LAY S r) (w : WF (I 70)) (hQ : Q (some (.int (nI (vo (I 70) s f t dr)))) S I J r) : xcall (d + 4) 289 [.ref 65, .int s, .int f, .int t, .int dr] S I J r Q := by
  have hv := vo_le (B := I 70) (s := s) (f := f) (t := t) (dr := nI 1)
  rw [vo_1] at hQ
  refine E289 hL (r290 hL w (K289_7 ?_))
  by_cases h : vo (I 70) s f t (nI 1) = 0
  · rw [h] at hQ ⊢
    rw [if_neg (by decide)] at hQ
    refine no (by decide) (c221 (fun h1 h2 => K289_24 (yes (by decide) ?_)) (fun h => K289_24 (nno rfl ?_)))
    · rw [i_l, i_lN (by decide)] at h1 h2
      rw [if_pos ⟨h1, h2⟩] at hQ; exact hQ
    · rw [i_l, i_lN (by decide), i_lN (by decide)] at h
      rw [if_neg (by exact h)] at hQ; exact hQ
  · rw [if_pos h] at hQ
    exact yes (fun q => h ((nI_eq (by omega) (by decide)).mp q)) hQ
