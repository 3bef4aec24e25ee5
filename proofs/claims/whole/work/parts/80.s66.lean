/-! lines added, joined -/
theorem c87 {d : Nat} {Q : XQ} {S : XS} {I : XI} {J : XJ} {r : XR} {n s L T q k : Nat} {F B : Nat → Int32} {Y : YY} {P : Nat → Nat} {W : Nat → Int64} (hL : LAY S r) (hl : L < 60) (h : SY I J n F s L T Y q P B W) (hQ : ∀ I', yf I I' → (∀ x, x = 15 ∨ x = 18 → I' x = I x) → SY I' J n F s (L + 1) T (yPut Y L (yNew k)) q P B W → Q (some (.int (nI L))) S I' J r) : xcall (d + 1) 87 [.ref 57, .int (nI k)] S I J r Q := by
  have h2 := h.2.1.2.2.1
  refine E87 (lay7_57 hL) (yes (by rw [h2, nI_ltI (by omega) (by omega)]; exact hl) ?_)
  simp (disch := omega) only [up_o, up_e, h2, nI_clamp, nI_add, pk_sub, Nat.add_sub_cancel]
  have v : vp_in (nI L) 60 := vp_in_nI (by omega) (by omega)
  refine ⟨v, v, v, v, v, v, hQ _ ?_ (fun x hx => ?_) ⟨h.1.i6 (fun x hx => ?_), ⟨?_, ?_, ?_, fun i hi f hf => ?_⟩, ?_, fun j hj => ?_, ?_, ?_, h.2.2.2.2.2.2.fr (fun q h1 h2 => ?_)⟩⟩
  · exact (((((((yf.r I).u (by omega)).u (by omega)).u (by omega)).u (by omega)).u (by omega)).u (by omega)).u (by omega)
  · simp (disch := omega) only [up_o]
  · simp (disch := omega) only [up_o]
  · simp (disch := omega) only [up_o, up_i]; exact h.2.1.1
  · simp (disch := omega) only [up_o, up_i]; exact h.2.1.2.1
  · exact up_e
  · by_cases e : i = L
    · subst e
      rcases (by omega : f = 0 ∨ f = 1 ∨ f = 2 ∨ f = 3 ∨ f = 4 ∨ f = 5) with rfl | rfl | rfl | rfl | rfl | rfl
      all_goals
        simp (disch := omega) only [up_o, up_e, yPut_e]
        rfl
    · have := h.2.1.2.2.2 i (by omega) f hf
      rcases (by omega : f = 0 ∨ f = 1 ∨ f = 2 ∨ f = 3 ∨ f = 4 ∨ f = 5) with rfl | rfl | rfl | rfl | rfl | rfl
      all_goals
        simp (disch := omega) only [up_o, up_i, yPut_o]
        exact this
  · simp (disch := omega) only [up_o]; exact h.2.2.1
  · simp (disch := omega) only [up_o]; exact h.2.2.2.1 j hj
  · simp (disch := omega) only [up_o]; exact h.2.2.2.2.1
  · simp (disch := omega) only [up_o]; exact h.2.2.2.2.2.1
  · simp (disch := omega) only [up_o]
def yJoin (Y : YY) (p e : Nat) : YY := up2 (up2 Y p 5 (nI e)) e 5 (nI p)
theorem c88 {d : Nat} {Q : XQ} {S : XS} {I : XI} {J : XJ} {r : XR} {n s L T q p e : Nat} {F B : Nat → Int32} {Y : YY} {P : Nat → Nat} {W : Nat → Int64} (hL : LAY S r) (hp : p < L) (he : e < L) (hl : L ≤ 60) (hpe : p ≠ e) (h : SY I J n F s L T Y q P B W) (hQ : ∀ I', yf I I' → SY I' J n F s L T (yJoin Y p e) q P B W → Q none S I' J r) : xcall (d + 2) 88 [.ref 57, .int (nI p), .int (nI e)] S I J r Q := by
  have h7 := lay7_57 hL
  refine E88 h7 (c89 (d := d) h7 h.2.1.2.2.1 hl hp (K88_5 h7 (no (by decide) (c89 (d := d) h7 h.2.1.2.2.1 hl he (K88_13 h7 (no (by decide) ⟨vp_in_nI (by omega) (by omega), vp_in_nI (by omega) (by omega), ?_⟩))))))
  rw [nI_clamp (by omega), nI_clamp (by omega)]
  refine hQ _ (((yf.r I).u (by omega)).u (by omega)) ⟨h.1.i6 (fun x hx => ?_), ⟨?_, ?_, ?_, fun i hi f hf => ?_⟩, ?_, fun j hj => ?_, ?_, ?_, h.2.2.2.2.2.2.fr (fun q h1 h2 => ?_)⟩
  · simp (disch := omega) only [up_o]
  · simp (disch := omega) only [up_o]; exact h.2.1.1
  · simp (disch := omega) only [up_o]; exact h.2.1.2.1
  · simp (disch := omega) only [up_o]; exact h.2.1.2.2.1
  · have := h.2.1.2.2.2 i hi f hf
    unfold yJoin
    by_cases ef : f = 5
    · subst ef
      by_cases e1 : i = e
      · subst e1; rw [up_e, up_e]
      · by_cases e2 : i = p
        · subst e2; rw [up_i e1, up_e, up_o e1, up_e]
        · rw [up_i e1, up_i e2, up_o e1, up_o e2]; exact this
    · rw [up_o (by omega), up_o (by omega)]
      by_cases e1 : i = e
      · subst e1
        rw [up_i ef, up_o (fun e => hpe e.symm)]; exact this
      · rw [up_o e1]
        by_cases e2 : i = p
        · subst e2; rw [up_i ef]; exact this
        · rw [up_o e2]; exact this
  · simp (disch := omega) only [up_o]; exact h.2.2.1
  · simp (disch := omega) only [up_o]; exact h.2.2.2.1 j hj
  · simp (disch := omega) only [up_o]; exact h.2.2.2.2.1
  · simp (disch := omega) only [up_o]; exact h.2.2.2.2.2.1
  · simp (disch := omega) only [up_o]
def clI (o : Option Nat) : Int32 := match o with
  | none => -1
  | some k => nI (clk k)
theorem c90 {d : Nat} {Q : XQ} {S : XS} {I : XI} {J : XJ} {r : XR} {a n s : Nat} {F : Nat → Int32} (hL : LAY S r) (h : RD I J 16 n F s) (hQ : Q (some (.int (clI (stp F n s)))) S I J r) : xcall (d + 6) 90 [.ref 15] S I J r Q := by
  have h5 := lay5_16 hL
  unfold stp at hQ
  refine E90 hL (c40k (d := d) h5 h (k := 15) (K := kSun) (by decide) (by decide +kernel) (fun e => ?_) (fun e => ?_))
  · rw [if_pos e] at hQ
    exact K90_9 hL (no (by decide) hQ)
  rw [if_neg (by rw [e]; decide)] at hQ
  refine K90_9 hL (yes rfl (c40k (d := d) h5 h (k := 16) (K := kRain) (by decide) (by decide +kernel) (fun e => ?_) (fun e => ?_)))
  · rw [if_pos e] at hQ
    exact K90_23 hL (no (by decide) hQ)
  rw [if_neg (by rw [e]; decide)] at hQ
  refine K90_23 hL (yes rfl (c40k (d := d) h5 h (k := 17) (K := kVeil) (by decide) (by decide +kernel) (fun e => ?_) (fun e => ?_)))
  · rw [if_pos e] at hQ
    exact K90_37 hL (no (by decide) hQ)
  rw [if_neg (by rw [e]; decide)] at hQ
  refine K90_37 hL (yes rfl (c40k (d := d) h5 h (k := 18) (K := kBare) (by decide) (by decide +kernel) (fun e => ?_) (fun e => ?_)))
  · rw [if_pos e] at hQ
    exact K90_51 hL (no (by decide) hQ)
  rw [if_neg (by rw [e]; decide)] at hQ
  refine K90_51 hL (yes rfl (c40k (d := d) h5 h (k := 19) (K := kInk) (by decide) (by decide +kernel) (fun e => ?_) (fun e => ?_)))
  · rw [if_pos e] at hQ
    exact K90_65 hL (no (by decide) hQ)
  rw [if_neg (by rw [e]; decide)] at hQ
  refine K90_65 hL (yes rfl (c40k (d := d) h5 h (k := 20) (K := kWash) (by decide) (by decide +kernel) (fun e => ?_) (fun e => ?_)))
  · rw [if_pos e] at hQ
    exact K90_79 hL (no (by decide) hQ)
  rw [if_neg (by rw [e]; decide)] at hQ
  refine K90_79 hL (yes rfl (c40k (d := d) h5 h (k := 21) (K := kSail) (by decide) (by decide +kernel) (fun e => ?_) (fun e => ?_)))
  · rw [if_pos e] at hQ
    exact K90_94 hL (no (by decide) hQ)
  rw [if_neg (by rw [e]; decide)] at hQ
  refine K90_94 hL (yes rfl (c40k (d := d) h5 h (k := 22) (K := kAny) (by decide) (by decide +kernel) (fun e => ?_) (fun e => ?_)))
  · rw [if_pos e] at hQ
    exact K90_109 hL (no (by decide) hQ)
  rw [if_neg (by rw [e]; decide)] at hQ
  refine K90_109 hL (yes rfl (c40k (d := d) h5 h (k := 23) (K := kWhen) (by decide) (by decide +kernel) (fun e => ?_) (fun e => ?_)))
  · rw [if_pos e] at hQ
    exact K90_124 hL (no (by decide) hQ)
  rw [if_neg (by rw [e]; decide)] at hQ
  refine K90_124 hL (yes rfl (c40k (d := d) h5 h (k := 24) (K := kLoop) (by decide) (by decide +kernel) (fun e => ?_) (fun e => ?_)))
  · rw [if_pos e] at hQ
    exact K90_139 hL (no (by decide) hQ)
  rw [if_neg (by rw [e]; decide)] at hQ
  refine K90_139 hL (yes rfl (c40k (d := d) h5 h (k := 25) (K := kStop) (by decide) (by decide +kernel) (fun e => ?_) (fun e => ?_)))
  · rw [if_pos e] at hQ
    exact K90_154 (no (by decide) hQ)
  rw [if_neg (by rw [e]; decide)] at hQ
  exact K90_154 (yes rfl hQ)
/-- the numbers of lines, steps, open ones -/
def LT (L T q : Nat) (P : Nat → Nat) : Prop := L + q ≤ 2 * T ∧ T ≤ 30 ∧ q ≤ 3 ∧ ∀ j, j < q → P j < L
def yEnd (Y : YY) (L p : Nat) : YY := yJoin (yPut Y L (yNew 15)) p L
/-- an end -/
theorem c86 {d : Nat} {Q : XQ} {S : XS} {I : XI} {J : XJ} {r : XR} {n s L T q : Nat} {F B : Nat → Int32} {Y : YY} {P : Nat → Nat} {W : Nat → Int64} (hL : LAY S r) (hn : n ≤ 900) (hs : s ≤ n) (hb : LT L T q P) (h : SY I J n F s L T Y q P B W)
    (hF : q = 0 → ∀ I' J', yf I I' → yj J J' → I' 16 8 = nI (am F n s) → I' 16 9 = nI s → Q (some (.int (nI 0))) S I' J' r)
    (hT : q ≠ 0 → ∀ I' J', yf I I' → yj J J' → SY I' J' n F (nxt F n s) (L + 1) T (yEnd Y L (P (q - 1))) (q - 1) P B W → Q (some (.int (nI 1))) S I' J' r) : xcall (d + 4) 86 [.ref 15, .ref 57] S I J r Q := by
  have h5 := lay5_16 hL
  have h7 := lay7_57 hL
  obtain ⟨b1, b2, b3, b4⟩ := hb
  refine E86 hL h7 ?_
  rw [h.2.2.1, show (0 : Int32) = nI 0 from rfl, nI_leI (by omega) (by omega)]
  by_cases q0 : q = 0
  · refine yes (by omega) (c55 (d := d + 2) h5 h.1 ?_)
    unfold FA
    exact K86_26 ⟨Or.inl rfl, hF q0 _ _ (((yf.r I).u (by omega)).u (by omega)) (yj.r J) (by rw [up_i (by decide), up_e]) up_e⟩
  refine no (by omega) (yes (by rw [nI_leI (by omega) (by omega)]; omega) ?_)
  rw [pk_sub (by omega)]
  have k1 : yf I (up2 I 15 2 (nI (q - 1))) := (yf.r I).u (by omega)
  have h1 : SY (up2 I 15 2 (nI (q - 1))) J n F s L T Y (q - 1) P B W := ⟨h.1.i6 (fun x hx => up_o (by omega)), h.2.1.k (fun x _ _ => up_o (by omega)), up_e, fun j hj => by rw [up_o (by decide)]; exact h.2.2.2.1 j (by omega), by rw [up_o (by decide)]; exact h.2.2.2.2.1, by rw [up_o (by decide)]; exact h.2.2.2.2.2.1, h.2.2.2.2.2.2.fr (fun q h1 h2 => up_o (by omega))⟩
  refine c87 (d := d + 2) (k := 15) hL (by omega) h1 (fun I2 f1 f2 h2 => K86_43 hL h7 ⟨?_, ?_⟩)
  · rw [h2.2.2.1]; exact vp_in_nI (by omega) (by omega)
  · rw [h2.2.2.1, nI_clamp (by omega), f2 18 (Or.inr rfl), up_o (by decide), h.2.2.2.1 (q - 1) (by omega)]
    have := b4 (q - 1) (by omega)
    exact c88 (d := d + 1) hL (by omega) (by omega) (by omega) (by omega) h2 (fun I3 g1 h3 => K86_58 hL (c36 (d := d + 1) h5 hn hs h3.1 (fun I4 J4 p1 p2 p3 => K86_65 (hT q0 I4 J4 (k1.t (f1.t (g1.t p1.yf))) p2.yj (h3.a p1 p2 p3)))))
def qN (k q : Nat) : Nat := if k = 8 ∨ k = 9 then q + 1 else q
def pN (k q L : Nat) (P : Nat → Nat) : Nat → Nat := if k = 8 ∨ k = 9 then fun i => if i = q then L else P i else P
theorem pN_o {k q L : Nat} {P : Nat → Nat} {j : Nat} (h : j < q) : pN k q L P j = P j := by
  unfold pN
  split
  · exact if_neg (by omega)
  · rfl
/-- a step's line -/
theorem c91 {d : Nat} {Q : XQ} {S : XS} {I : XI} {J : XJ} {r : XR} {n s L T q k : Nat} {F B : Nat → Int32} {Y : YY} {P : Nat → Nat} {W : Nat → Int64} (hL : LAY S r) (hn : n ≤ 900) (hs : s ≤ n) (hb : LT L T q P) (hk : k ≤ 10) (h : SY I J n F s L T Y q P B W)
    (hF : ∀ c, (T = 30 ∧ c = 6) ∨ (T ≠ 30 ∧ (k = 8 ∨ k = 9) ∧ q = 3 ∧ c = 7) → ∀ I' J', yf I I' → yj J J' → I' 16 8 = nI c → I' 16 9 = nI s → Q (some (.int (-1))) S I' J' r)
    (hT : T ≠ 30 → ¬ ((k = 8 ∨ k = 9) ∧ q = 3) → ∀ I' J', yf I I' → yj J J' → SY I' J' n F (nxt F n s) (L + 1) (T + 1) (yPut Y L (yNew (clk k))) (qN k q) (pN k q L P) B W → Q (some (.int (nI L))) S I' J' r) : xcall (d + 3) 91 [.ref 15, .ref 57, .int (nI (clk k))] S I J r Q := by
  have h5 := lay5_16 hL
  have h7 := lay7_57 hL
  obtain ⟨b1, b2, b3, b4⟩ := hb
  have hcl : clk k < 100 ∧ (clk k = 11 ↔ k = 8) ∧ (clk k = 10 ↔ k = 9) := by unfold clk; split <;> omega
  have key : ∀ (b : Nat) (w3 w4 : Value), (b = 1 ∧ (k = 8 ∨ k = 9)) ∨ (b = 0 ∧ ¬ (k = 8 ∨ k = 9)) → xrun z0 (xcall (d + 2)) Q 91 17 [.ref 15, .ref 57, .int (nI (clk k)), w3, w4] [.int (nI b)] S I J r 0 0 := fun b w3 w4 hbk => by
    refine K91_17 hL h7 (yes (nI_m1 (by omega)) ?_)
    rw [h.2.1.2.1, nI_ltI (by omega) (by decide)]
    by_cases t : T = 30
    · exact no (by omega) (c53 (d := d + 1) h5 h.1 (K91_51 (hF 6 (Or.inl ⟨t, rfl⟩) _ _ (((yf.r I).u (by omega)).u (by omega)) (yj.r J) (by rw [up_i (by decide), up_e]) up_e)))
    refine yes (by omega) ?_
    have add : ¬ ((k = 8 ∨ k = 9) ∧ q = 3) → xcall (d + 2) 87 [.ref 57, .int (nI (clk k))] S I J r (fun v S1 I1 J1 r1 => xrun z0 (xcall (d + 2)) Q 91 87 [.ref 15, .ref 57, .int (nI (clk k)), .int (nI b), w4] (v.toList ++ []) S1 I1 J1 r1 0 0) := fun hq => by
      refine c87 (d := d + 1) hL (by omega) h (fun I2 f1 f2 h2 => K91_87 hL h7 ?_)
      have k2 : yf I2 (up2 I2 57 1 (nI (T + 1))) := (yf.r I2).u (by omega)
      have h3 : SY (up2 I2 57 1 (nI (T + 1))) J n F s (L + 1) (T + 1) (yPut Y L (yNew (clk k))) q P B W := ⟨h2.1.i6 (fun x hx => up_o (by omega)), ⟨by rw [up_i (by decide)]; exact h2.2.1.1, up_e, by rw [up_i (by decide)]; exact h2.2.1.2.2.1, fun i hi f hf => by rw [up_o (by omega)]; exact h2.2.1.2.2.2 i hi f hf⟩, by rw [up_o (by decide)]; exact h2.2.2.1, fun j hj => by rw [up_o (by decide)]; exact h2.2.2.2.1 j hj, by rw [up_o (by decide)]; exact h2.2.2.2.2.1, by rw [up_o (by decide)]; exact h2.2.2.2.2.2.1, h2.2.2.2.2.2.2.fr (fun q h1 h2 => up_o (by omega))⟩
      rw [h2.2.1.2.1, nI_add]
      rcases hbk with ⟨rfl, hk2⟩ | ⟨rfl, hk2⟩
      · refine no (by decide) ⟨?_, ?_⟩
        · rw [h3.2.2.1]; exact vp_in_nI (by omega) (by omega)
        · rw [h3.2.2.1, nI_clamp (by omega)]
          have e15 : up2 (up2 I2 57 1 (nI (T + 1))) 18 q (nI L) 15 2 = nI q := by rw [up_o (by decide)]; exact h3.2.2.1
          rw [e15, nI_add]
          have h4 : SY (up2 (up2 (up2 I2 57 1 (nI (T + 1))) 18 q (nI L)) 15 2 (nI (q + 1))) J n F s (L + 1) (T + 1) (yPut Y L (yNew (clk k))) (q + 1) (pN k q L P) B W := ⟨h3.1.i6 (fun x hx => by rw [up_o (by omega), up_o (by omega)]), h3.2.1.k (fun x _ _ => by rw [up_o (by omega), up_o (by omega)]), up_e, fun j hj => by
            rw [up_o (by decide)]
            unfold pN
            rw [if_pos hk2]
            by_cases e : j = q
            · subst e; rw [up_e, if_pos rfl]
            · rw [up_i e, if_neg e]; exact h3.2.2.2.1 j (by omega), by rw [up_o (by decide), up_o (by decide)]; exact h3.2.2.2.2.1, by rw [up_o (by decide), up_o (by decide)]; exact h3.2.2.2.2.2.1, h3.2.2.2.2.2.2.fr (fun q h1 h2 => by rw [up_o (by omega), up_o (by omega)])⟩
          have k4 : yf I2 (up2 (up2 (up2 I2 57 1 (nI (T + 1))) 18 q (nI L)) 15 2 (nI (q + 1))) := (k2.u (by omega)).u (by omega)
          have eq1 : qN k q = q + 1 := if_pos hk2
          exact c36 (d := d) h5 hn hs h4.1 (fun I5 J5 p1 p2 p3 => K91_131 (hT t hq I5 J5 (f1.t (k4.t p1.yf)) p2.yj (by rw [eq1]; exact h4.a p1 p2 p3)))
      · have eq1 : qN k q = q := if_neg hk2
        have eq2 : pN k q L P = P := if_neg hk2
        exact yes rfl (c36 (d := d) h5 hn hs h3.1 (fun I5 J5 p1 p2 p3 => K91_131 (hT t hq I5 J5 (f1.t (k2.t p1.yf)) p2.yj (by rw [eq1, eq2]; exact h3.a p1 p2 p3))))
    rcases hbk with ⟨rfl, hk2⟩ | ⟨rfl, hk2⟩
    · refine no (by decide) ?_
      rw [h.2.2.1, nI_ltI (by omega) (by decide)]
      by_cases q3 : q = 3
      · exact no (by omega) (c53 (d := d + 1) h5 h.1 (K91_79 (hF 7 (Or.inr ⟨t, hk2, q3, rfl⟩) _ _ (((yf.r I).u (by omega)).u (by omega)) (yj.r J) (by rw [up_i (by decide), up_e]) up_e)))
      · exact yes (by omega) (add (fun h => q3 h.2))
    · exact yes rfl (add (fun h => hk2 h.1))
  refine E91 ?_
  rw [nI_eqI (by omega) (by decide), nI_eqI (by omega) (by decide), hcl.2.1, hcl.2.2]
  by_cases k8 : k = 8
  · exact yes k8 (key 1 _ _ (Or.inl ⟨rfl, Or.inl k8⟩))
  refine no k8 ?_
  by_cases k9 : k = 9
  · exact nno k9 (key 1 _ _ (Or.inl ⟨rfl, Or.inr k9⟩))
  · exact yes k9 (key 0 _ _ (Or.inr ⟨rfl, fun h => h.elim k8 k9⟩))
