/-! a step done: the class -/
/-- rows that a step leaves; of the counters' row the steps, the missed, what is left -/
def lf (a : Nat) (I I' : XI) : Prop := (∀ q, (q < 22 ∨ (25 < q ∧ q < a) ∨ a + 10 < q) → I' q = I q) ∧ ∀ i, i = 3 ∨ i = 4 ∨ i = 8 → I' 22 i = I 22 i
theorem lf.r (a : Nat) (I : XI) : lf a I I := ⟨fun _ _ => rfl, fun _ _ => rfl⟩
theorem lf.t {a : Nat} {I I' I2 : XI} (h : lf a I I') (h2 : lf a I' I2) : lf a I I2 := ⟨fun q hq => (h2.1 q hq).trans (h.1 q hq), fun i hi => (h2.2 i hi).trans (h.2 i hi)⟩
theorem lf.u {a i : Nat} {v : Int32} {I I' : XI} (h : lf a I I') (ha : 26 < a) (hi : i ≠ 3 ∧ i ≠ 4 ∧ i ≠ 8) : lf a I (up2 I' 22 i v) := ⟨fun q hq => by rw [up_o (by omega)]; exact h.1 q hq, fun j hj => by rw [up_i (by omega)]; exact h.2 j hj⟩
theorem frc.l {a : Nat} {I I' : XI} (h : frc a I I') (ha : 26 < a) : lf a I I' := ⟨fun q hq => h q (by omega), fun i _ => by rw [h 22 (by omega)]⟩
theorem fr3.l {a : Nat} {I I' : XI} (h : fr3 23 I I') (ha : 26 < a) : lf a I I' := ⟨fun q hq => h q (by omega), fun i _ => by rw [h 22 (by omega)]⟩
/-- the class's coast at a and its counters -/
def LCS (I : XI) (J : XJ) (a : Nat) (W : Nat → Int64) (st : YL) : Prop := CR I J a st.1 W ∧ I 22 2 = nI st.2.1 ∧ I 22 7 = st.2.2.1 ∧ I 22 5 = st.2.2.2.1 ∧ I 22 6 = st.2.2.2.2 ∧ st.2.1 < 65536
theorem LCS.f {I I' : XI} {J : XJ} {a : Nat} {W : Nat → Int64} {st : YL} {B : Nat → Int32} (h : LCS I J a W st) (ha : 26 < a) (k : frc a I I') (c : CR I' J a B W) : LCS I' J a W (B, st.2) := by
  have e : I' 22 = I 22 := k 22 (by omega)
  refine ⟨c, ?_, ?_, ?_, ?_, h.2.2.2.2.2⟩
  · rw [e]; exact h.2.1
  · rw [e]; exact h.2.2.1
  · rw [e]; exact h.2.2.2.1
  · rw [e]; exact h.2.2.2.2.1
theorem c180 {d : Nat} {Q : XQ} {S : XS} {I : XI} {J : XJ} {r : XR} {rn n : Nat} (hL : LAY S r) (hn : 0 < n) (hn2 : n < 1000) (h2 : I 22 2 = nI rn) (hr : rn < 65536) (hQ : Q (some (.int (nI (nx rn / 8 % n)))) S (up2 I 22 2 (nI (nx rn))) J r) : xcall (d + 1) 180 [.ref 22, .int (nI n)] S I J r Q := by
  have hx := nx_lt (rn := rn)
  refine E180 hL (no (by rw [show (0 : Int32) = nI 0 from rfl, nI_leI (by omega) (by decide)]; omega) ⟨by rw [show (0 : Int32) = nI 0 from rfl, nI_eqI (by omega) (by decide)]; omega, ?_⟩)
  have e1 : (((I 22 2) * nI 2971) + nI 10883) - (((I 22 2) * nI 2971) + nI 10883) / nI 65536 * nI 65536 = nI (nx rn) := by
    rw [h2]
    unfold nx
    simp (disch := omega) only [nI_add, nI_1, pk_mul, nI_rem, nI_remm, pk_sub, pk_div, nI_clamp, nI_leI, nI_ltI, nI_eqI, nI_l, nI_0le, nI_nlt0]
    omega
  rw [e1, up_e]
  have e2 : nI (nx rn) / nI 8 - nI (nx rn) / nI 8 / nI n * nI n = nI (nx rn / 8 % n) := by simp (disch := omega) only [nI_add, nI_1, pk_mul, nI_rem, nI_remm, pk_sub, pk_div, nI_clamp, nI_leI, nI_ltI, nI_eqI, nI_l, nI_0le, nI_nlt0]
  rw [e2]
  exact hQ
theorem c177 {d : Nat} {Q : XQ} {S : XS} {I : XI} {J : XJ} {r : XR} {a k m : Nat} {W : Nat → Int64} {st : YL} (hL : LAY S r) (h0 : LY0 S r a) (ha : 26 < a) (h : LCS I J a W st) (hk : k < bn st.1 3) (hm : m ≤ 9) (hQ : ∀ I', lf a I I' → LCS I' J a W (dDk k m st).2 → Q (some (.int (dDk k m st).1)) S I' J r) : xcall (d + 3) 177 [.ref 22, .ref a, .int (nI k), .int (nI m)] S I J r Q := by
  refine E177 h0 (c109 (d := d) h0 h.1 hk hm (fun I' f c => K177_6 hL ?_))
  have h1 := h.f ha f c
  unfold dDk at hQ
  rcases dk_01 (B := st.1) (k := k) (m := m) with e | e
  · rw [e] at hQ
    rw [if_pos rfl] at hQ
    exact no (by rw [e]; decide) (hQ I' (f.l ha) h1)
  · rw [e] at hQ
    rw [if_neg (by decide)] at hQ
    refine yes (by rw [e]; decide) ?_
    have e7 : I' 22 7 = st.2.2.1 := h1.2.2.1
    rw [e7]
    refine hQ _ ((f.l ha).u ha (by decide)) ⟨h1.1.fr (fun q q1 q2 => up_o (by omega)), ?_, up_e, ?_, ?_, h1.2.2.2.2.2⟩
    · rw [up_i (by decide)]; exact h1.2.1
    · rw [up_i (by decide)]; exact h1.2.2.2.1
    · rw [up_i (by decide)]; exact h1.2.2.2.2.1
/-- the class's years at a coast -/
def LY (I : XI) (a L : Nat) (Y : YY) : Prop := I (a + 11) 2 = nI L ∧ ∀ i, i < L → ∀ f, f < 6 → I (a + 12 + f) i = Y i f
theorem LY.l {I I' : XI} {a L : Nat} {Y : YY} (h : LY I a L Y) (k : lf a I I') : LY I' a L Y := ⟨by rw [k.1 (a + 11) (by omega)]; exact h.1, fun i hi f hf => by rw [k.1 _ (by omega)]; exact h.2 i hi f hf⟩
theorem c178 {d : Nat} {Q : XQ} {S : XS} {I : XI} {J : XJ} {r : XR} {a l L k f t dr : Nat} {Y : YY} {W : Nat → Int64} {st : YL} (hL : LAY S r) (h0 : LY0 S r a) (ha : a = 28 ∨ a = 46) (h : LCS I J a W st) (y : LY I a L Y) (hl : l < L) (hL6 : L ≤ 60) (h1 : Y l 1 = nI k) (h2 : Y l 2 = nI f) (h3 : Y l 3 = nI t) (h4 : Y l 4 = nI dr) (hk : k < bn st.1 3) (hf : f < ce st.1) (ht : t < ce st.1) (hd : dr ≤ 10) (hQ : ∀ I', lf a I I' → LCS I' J a W (dSl k f t dr st).2 → Q (some (.int (dSl k f t dr st).1)) S I' J r) : xcall (d + 5) 178 [.ref 22, .ref a, .int (nI l)] S I J r Q := by
  have w := h.1.wf
  have hc := w.c.2
  have hp := lay4_23 hL
  have ha6 : 26 < a := by omega
  have v60 : vp_in (nI l) 60 := vp_in_nI (by omega) (by omega)
  refine E178 h0 ⟨v60, ?_⟩
  have g1 : I (a + 11 + 2) (nI l).toNatClampNeg = nI k := by rw [nI_clamp (by omega)]; exact (y.2 l hl 1 (by decide)).trans h1
  rw [g1]
  refine c72y (d := d + 3) h0 h.1.n7 (by omega) hk (K178_15 h0 (yes (by decide) ⟨v60, ?_⟩))
  rw [g1]
  refine c122 (d := d) h0 h.1 (K178_32 hL h0 ⟨v60, v60, ?_⟩)
  have g2 : I (a + 11 + 3) (nI l).toNatClampNeg = nI f := by rw [nI_clamp (by omega)]; exact (y.2 l hl 2 (by decide)).trans h2
  have g3 : I (a + 11 + 4) (nI l).toNatClampNeg = nI t := by rw [nI_clamp (by omega)]; exact (y.2 l hl 3 (by decide)).trans h3
  rw [g2, g3]
  refine c125 (d := d) (J' := J) hp h0 (by omega) h.1 (ope_in w) hf ht (fun I1 f1 e => K178_56 hL h0 ?_)
  have c1 : CR I1 J a st.1 W := h.1.fr (fun q q1 q2 => f1 q (by omega))
  have h22 : I1 22 = I 22 := f1 22 (by omega)
  by_cases q : WL st.1 (ope st.1 (bi k)) f t < 30
  · rw [dSl_y q] at hQ
    rw [if_pos q]
    refine yes (by decide) ⟨v60, ?_⟩
    have g5 : I1 (a + 11 + 5) (nI l).toNatClampNeg = nI dr := by rw [nI_clamp (by omega), f1 (a + 11 + 5) (by omega)]; exact (y.2 l hl 4 (by decide)).trans h4
    rw [g5]
    refine c131 (d := d) hp h0 c1 hd q (WY_32 w hf q) (e q).1 (e q).2 (fun I2 f2 c2 => K178_75 hL ?_)
    have h22b : I2 22 = I 22 := (f2 22 (by omega)).trans h22
    have fl : lf a I I2 := (f1.l ha6).t (f2.l ha6)
    have es : STR st.1 dr (WY st.1 (ope st.1 (bi k)) f t) (WL st.1 (ope st.1 (bi k)) f t) = ST1 st.1 (bi k) f t dr := rfl
    rw [es] at c2 ⊢
    generalize ST1 st.1 (bi k) f t dr = x at *
    rcases sh_01 (B := st.1) (s := x) with e0 | e0
    · rw [e0] at hQ ⊢
      rw [if_pos rfl, if_pos rfl] at hQ
      refine yes rfl ?_
      rw [h22b]
      refine hQ _ (fl.u ha6 (by decide)) ⟨c2.fr (fun q q1 q2 => up_o (by omega)), ?_, ?_, ?_, ?_, h.2.2.2.2.2⟩
      · rw [up_i (by decide), h22b]; exact h.2.1
      · rw [up_i (by decide), h22b]; exact h.2.2.1
      · rw [up_e, h.2.2.2.1]
      · rw [up_i (by decide), h22b]; exact h.2.2.2.2.1
    · rw [e0] at hQ ⊢
      rw [if_neg (by decide), if_neg (by decide)] at hQ
      refine no (by decide) ?_
      rw [h22b]
      refine hQ _ (fl.u ha6 (by decide)) ⟨c2.fr (fun q q1 q2 => up_o (by omega)), ?_, ?_, ?_, ?_, h.2.2.2.2.2⟩
      · rw [up_i (by decide), h22b]; exact h.2.1
      · rw [up_i (by decide), h22b]; exact h.2.2.1
      · rw [up_i (by decide), h22b]; exact h.2.2.2.1
      · rw [up_e, h.2.2.2.2.1]
  · rw [dSl_n q] at hQ
    rw [if_neg q]
    refine nno rfl (hQ I1 (f1.l ha6) ⟨c1, ?_, ?_, ?_, ?_, h.2.2.2.2.2⟩)
    · rw [h22]; exact h.2.1
    · rw [h22]; exact h.2.2.1
    · rw [h22]; exact h.2.2.2.1
    · rw [h22]; exact h.2.2.2.2.1
theorem LCS.rn {I : XI} {J : XJ} {a rn : Nat} {W : Nat → Int64} {st : YL} (h : LCS I J a W st) (ha : 26 < a) (hr : rn < 65536) : LCS (up2 I 22 2 (nI rn)) J a W (st.1, rn, st.2.2) :=
  ⟨h.1.fr (fun q q1 q2 => up_o (by omega)), up_e, by rw [up_i (by decide)]; exact h.2.2.1, by rw [up_i (by decide)]; exact h.2.2.2.1, by rw [up_i (by decide)]; exact h.2.2.2.2.1, hr⟩
theorem c179 {d : Nat} {Q : XQ} {S : XS} {I : XI} {J : XJ} {r : XR} {a : Nat} {W : Nat → Int64} {st : YL} (hL : LAY S r) (h0 : LY0 S r a) (ha : 26 < a) (h : LCS I J a W st) (hQ : ∀ I', lf a I I' → LCS I' J a W (dAn st).2 → Q (some (.int (dAn st).1)) S I' J r) : xcall (d + 4) 179 [.ref 22, .ref a] S I J r Q := by
  have w := h.1.wf
  have hc := w.c.2
  have ho := w.o.2
  unfold dAn at hQ
  refine E179 hL h0 ?_
  rw [h.1.n7, show (0 : Int32) = nI 0 from rfl, nI_eqI (by omega) (by decide)]
  by_cases q0 : bn st.1 3 = 0
  · rw [if_pos q0] at hQ
    exact nno q0 (hQ I (lf.r a I) h)
  rw [if_neg q0] at hQ
  refine yes q0 (c180 (d := d + 2) hL (by omega) (by omega) h.2.1 h.2.2.2.2.2 (K179_17 hL ?_))
  have h1 := h.rn ha (nx_lt (rn := st.2.1))
  have k1 : lf a I (up2 I 22 2 (nI (nx st.2.1))) := (lf.r a I).u ha (by decide)
  have hk : nx st.2.1 / 8 % bn st.1 3 < bn st.1 3 := Nat.mod_lt _ (by omega)
  have h1r : up2 I 22 2 (nI (nx st.2.1)) 22 2 = nI (nx st.2.1) := up_e
  refine c180 (d := d + 2) (rn := nx st.2.1) hL (by decide) (by decide) h1r nx_lt (K179_24 hL h0 ?_)
  have h2 := h1.rn ha (nx_lt (rn := nx st.2.1))
  have k2 := k1.u (i := 2) (v := nI (nx (nx st.2.1))) ha (by decide)
  generalize nx st.2.1 / 8 % bn st.1 3 = k at *
  have h2' : LCS (up2 (up2 I 22 2 (nI (nx st.2.1))) 22 2 (nI (nx (nx st.2.1)))) J a W (st.1, nx (nx st.2.1), st.2.2) := h2
  have n2 : up2 (up2 I 22 2 (nI (nx st.2.1))) 22 2 (nI (nx (nx st.2.1))) a 2 = nI (bn st.1 4) := h2'.1.n2
  rw [n2, nI_leI (by omega) (by have := Nat.mod_lt (nx (nx st.2.1) / 8) (by decide : 0 < 16); omega)]
  by_cases q1 : nx (nx st.2.1) / 8 % 16 < bn st.1 4
  · rw [if_pos q1] at hQ
    refine no (by omega) (c177 (d := d) hL h0 ha h2' hk (by decide) (fun I3 f3 h3 => K179_38 ⟨?_, hQ I3 (k2.t f3) h3⟩))
    exact dk_01
  · rw [if_neg q1] at hQ
    refine yes (by omega) ?_
    rcases w.ve hk with e | e
    · refine c74 (d := d + 2) h0 h2'.1 hk (fun e2 => ?_) (fun _ => K179_46 h0 (c73 (d := d + 1) h0 h2'.1 hk (Or.inr rfl) (fun I3 f3 c3 => K179_49 ⟨vl_01, ?_⟩)))
      · have e2' : st.1 (61 + k) = 1 := e2
        rw [e] at e2'; cases e2'
      · have ev : vlB st.1 k 1 = (1, ub st.1 (61 + k) 1) := by unfold vlB; rw [if_neg (by rw [e]; decide)]
        have h3 := h2'.f ha f3 c3
        rw [e] at hQ
        have h3 : LCS I3 J a W ((vlB st.1 k 1).2, nx (nx st.2.1), st.2.2) := h3
        rw [ev] at h3
        show Q (some (.int (vlB st.1 k 1).1)) S I3 J r
        rw [ev]
        exact hQ I3 (k2.t (f3.l ha)) h3
    · refine c74 (d := d + 2) h0 h2'.1 hk (fun _ => K179_46 h0 (c73 (d := d + 1) h0 h2'.1 hk (Or.inl rfl) (fun I3 f3 c3 => K179_49 ⟨vl_01, ?_⟩))) (fun e2 => ?_)
      · have ev : vlB st.1 k 0 = (1, ub st.1 (61 + k) 0) := by unfold vlB; rw [if_neg (by rw [e]; decide)]
        have h3 := h2'.f ha f3 c3
        rw [e] at hQ
        have h3 : LCS I3 J a W ((vlB st.1 k 0).2, nx (nx st.2.1), st.2.2) := h3
        rw [ev] at h3
        show Q (some (.int (vlB st.1 k 0).1)) S I3 J r
        rw [ev]
        exact hQ I3 (k2.t (f3.l ha)) h3
      · have e2' : st.1 (61 + k) = 0 := e2
        rw [e] at e2'; cases e2'
