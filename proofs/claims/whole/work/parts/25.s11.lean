/-! safe sets -/
def safe (B : Nat → Int32) (s : Int32) (f t dr : Nat) : Bool := decide (WL B (ope B s) f t < 30 ∧ ST1 B s f t dr = -1)
theorem c143 {d : Nat} {Q : XQ} {S : XS} {I : XI} {J : XJ} {r : XR} {s : Int32} {f t dr : Nat} {B : Nat → Int32} {W : Nat → Int64} (hL : LAY S r) (c : CR I J 28 B W) (hf : f < ce B) (ht : t < ce B) (hd : dr ≤ 10) (hQ : ∀ I', fr3 19 I I' → Q (some (.int (if safe B s f t dr = true then 1 else 0))) S I' J r) : xcall (d + 5) 143 [.ref 19, .ref 28, .int s, .int (nI f), .int (nI t), .int (nI dr)] S I J r Q := by
  refine E143 (lay0_28 hL) (c122 (lay0_28 hL) c (K143_7 (lay4_19 hL) (c125 (J' := J) (lay4_19 hL) (lay0_28 hL) (by decide) c (ope_in c.wf) hf ht (fun I' g e => ?_))))
  have hq := hQ I' g
  by_cases q : WL B (ope B s) f t < 30
  · rw [if_pos q]
    refine K143_13 (lay4_19 hL) (no (by decide) (c132 (lay4_19 hL) (lay0_28 hL) ((g.ix (Or.inl rfl)).cr c) hd q (WY_32 c.wf hf q) (e q).1 (e q).2 (K143_23 ?_)))
    by_cases q6 : ST1 B s f t dr = -1
    · rw [if_pos (by unfold safe; rw [decide_eq_true_eq]; exact ⟨q, q6⟩)] at hq
      exact nno q6 hq
    · rw [if_neg (by unfold safe; rw [decide_eq_true_eq]; exact fun h => q6 h.2)] at hq
      exact yes q6 hq
  · rw [if_neg q]
    rw [if_neg (by unfold safe; rw [decide_eq_true_eq]; exact fun h => q h.1)] at hq
    exact K143_13 (lay4_19 hL) (yes rfl hq)
theorem r309 {d : Nat} {Q : XQ} {S : XS} {I : XI} {J : XJ} {r : XR} {s : Int32} {f t dr : Nat} (hL : LAY S r) (w : WF (I 70)) (hf : f < ce (I 70)) (ht : t < ce (I 70)) (hd : dr ≤ 10) (hQ : ∀ I', f73 I I' → Q (some (.int (if safe (I 70) s f t dr = true then 1 else 0))) S I' J r) : xcall (d + 7) 309 [.ref 65, .int s, .int (nI f), .int (nI t), .int (nI dr)] S I J r Q := by
  refine E309 hL (r294 hL w hf ht (fun I1 g e => K309_7 hL ?_))
  have g70 : I1 70 = I 70 := g 70 (by decide)
  have hq := hQ I1 g
  by_cases q : WL (I 70) (ope (I 70) s) f t < 30
  · have h9 := STR_0 (B := I 70) (dr := dr) (WY_32 w hf q)
    have e1' : WN (I 70) (ope (I 70) s) f t = nI (WL (I 70) (ope (I 70) s) f t + 1) := by unfold WN; rw [if_pos q]
    refine no ?_ (r299 (o := ope (I1 70) s) (t := t) hL (by rw [g70]; exact w) (ope_in (by rw [g70]; exact w)) (by rw [g70]; exact hf) (by rw [g70]; exact q) (by rw [g70]; exact e q) hd ?_)
    · rw [e1']; exact nI_nle (by omega) (by omega)
    rw [g70]
    by_cases q6 : ST1 (I 70) s f t dr = -1
    · rw [if_pos (by unfold safe; rw [decide_eq_true_eq]; exact ⟨q, q6⟩)] at hq
      exact K309_17 (no (fun q8 => h9.mp q8 q6) hq)
    · rw [if_neg (by unfold safe; rw [decide_eq_true_eq]; exact fun h => q6 h.2)] at hq
      exact K309_17 (yes (h9.mpr q6) hq)
  · rw [if_neg (by unfold safe; rw [decide_eq_true_eq]; exact fun h => q h.1)] at hq
    refine yes ?_ hq
    unfold WN; rw [if_neg q]; decide
/-- of the sets below n that are so, the least in number, the first of them -/
def bs (P : Nat → Bool) : Nat → Option Nat
  | 0 => none
  | n + 1 => match bs P n with
    | none => if P n = true then some n else none
    | some b => if ctN (nI n) 32 < ctN (nI b) 32 ∧ P n = true then some n else some b
theorem bs_lt {P : Nat → Bool} : ∀ {n b : Nat}, bs P n = some b → b < n
  | 0, _, h => by cases h
  | n + 1, b, h => by
    rw [bs] at h
    split at h
    · split at h
      · cases h; omega
      · cases h
    · rename_i b' hb
      split at h
      · cases h; omega
      · cases h; have := bs_lt hb; omega
def bsI (o : Option Nat) : Int32 := match o with
  | none => -1
  | some b => nI b
def bsN (o : Option Nat) : Nat := match o with
  | none => 7
  | some b => ctN (nI b) 32
theorem ct_6 {s : Nat} (h : s < 64) : ctN (nI s) 32 < 7 := by
  have h1 : ctN (nI s) 32 = ctN (nI s) 6 := ctN_top (fun i h1 h2 => bt_nI_hi (n := 6) h (by omega) (by decide)) 32 (by decide) (by decide)
  have := ctN_le (nI s) 6
  omega
theorem bs_s {P : Nat → Bool} {n : Nat} (hn : n < 64) : bs P (n + 1) = if ctN (nI n) 32 < bsN (bs P n) ∧ P n = true then some n else bs P n := by
  rw [bs]
  have := ct_6 hn
  cases h : bs P n
  · show (if P n = true then some n else none) = if ctN (nI n) 32 < 7 ∧ P n = true then some n else none
    by_cases q : P n = true
    · rw [if_pos q, if_pos ⟨this, q⟩]
    · rw [if_neg q, if_neg (fun h => q h.2)]
  · rfl
theorem fr3.bc {I I' : XI} {J : XJ} {B : Nat → Int32} {W : Nat → Int64} (g : fr3 19 I I') (c : CR I J 28 B W) : CR I' J 28 B W := (g.ix (Or.inl rfl)).cr c
theorem k142 {d : Nat} {Q : XQ} {S : XS} {I : XI} {J : XJ} {r : XR} {cu su f t dr : Nat} {B : Nat → Int32} {W : Nat → Int64} (hL : LAY S r) (c : CR I J 28 B W) (hf : f < ce B) (ht : t < ce B) (hd : dr ≤ 10)
    (hQ : QC Q S I J r (if (bs (fun s => safe B (nI s) f t dr) (2 ^ bn B 3)) = none then 8 else 0) (bsI (bs (fun s => safe B (nI s) f t dr) (2 ^ bn B 3)))) :
    ∀ j i I1 w4 w8, i + j = 2 ^ bn B 3 → fr3 19 I I1 → xrun z0 (xcall (d + 5)) Q 142 32 [.ref 0, .int (nI f), .int (nI t), .int (nI dr), w4, .int (bsI (bs (fun s => safe B (nI s) f t dr) i)), .int (nI (bsN (bs (fun s => safe B (nI s) f t dr) i))), .int (nI i), w8] [] S I1 J r cu su
  | 0, i, I1, w4, w8, hi, g => by
    have hp := pow_le c.wf.c.2
    have e : i = 2 ^ bn B 3 := by omega
    subst e
    have c1 := g.bc c
    refine K142_32 hL (c121 (lay0_28 hL) c1.n7 c.wf.c.2 (K142_41 hL (yes (Int32.le_refl _) ?_)))
    cases h : bs (fun s => safe B (nI s) f t dr) (2 ^ bn B 3)
    · rw [h] at hQ
      exact nno rfl (E31 hL (K142_103 (K142_112 (hQ.e (g.ix (Or.inl rfl))))))
    · rw [h] at hQ
      have hb := bs_lt h
      exact yes (nI_m1 (by omega)) (E83 hL (K142_112 (hQ.e (g.ix (Or.inl rfl)))))
  | j + 1, i, I1, w4, w8, hi, g => by
    have hp := pow_le c.wf.c.2
    have c1 := g.bc c
    have hs := bs_s (P := fun s => safe B (nI s) f t dr) (n := i) (by omega)
    have hc := ct_6 (s := i) (by omega)
    have hn : bsN (bs (fun s => safe B (nI s) f t dr) i) < 33 := by
      unfold bsN; split
      · omega
      · have := ctN_le (nI ‹Nat›) 32; omega
    have ih := fun I2 (g2 : fr3 19 I I2) w4 w8 => k142 (d := d) (cu := cu) (su := su) hL c hf ht hd hQ j (i + 1) I2 w4 w8 (by omega) g2
    rw [hs] at ih
    refine K142_32 hL (c121 (lay0_28 hL) c1.n7 c.wf.c.2 (K142_41 hL (no (by rw [nI_leI (by omega) (by omega)]; omega) (c78 (K142_49 hL ?_)))))
    by_cases q : ctN (nI i) 32 < bsN (bs (fun s => safe B (nI s) f t dr) i)
    · refine no (by rw [nI_leI (by omega) (by omega)]; omega) (c143 hL c1 hf ht hd (fun I2 g2 => ?_))
      by_cases q2 : safe B (nI i) f t dr = true
      · rw [if_pos q2]
        refine K142_74 (no (by decide) ?_)
        have := ih I2 (g.t g2) (xkp w4) (.int (nI (ctN (nI i) 32)))
        rw [if_pos ⟨q, q2⟩] at this
        rw [nI_add]; exact this
      · rw [if_neg q2]
        refine K142_74 (yes rfl ?_)
        have := ih I2 (g.t g2) w4 (.int (nI (ctN (nI i) 32)))
        rw [if_neg (fun h => q2 h.2)] at this
        rw [nI_add]; exact this
    · refine yes (by rw [nI_leI (by omega) (by omega)]; omega) ?_
      have := ih I1 g w4 (.int (nI (ctN (nI i) 32)))
      rw [if_neg (fun h => q h.1)] at this
      rw [nI_add]; exact this
/-- FEWEST as a set -/
def FEW (B : Nat → Int32) (f t dr : Nat) : Option Nat := bs (fun s => safe B (nI s) f t dr) (2 ^ bn B 3)
def q144 (B : Nat → Int32) (f t dr : Int32) : Nat × Int32 := if vo B 0 f t dr ≠ 0 then (vo B 0 f t dr, -1) else (if FEW B (cl f) (cl t) (cl dr) = none then 8 else 0, bsI (FEW B (cl f) (cl t) (cl dr)))
theorem c142 {d : Nat} {Q : XQ} {S : XS} {I : XI} {J : XJ} {r : XR} {f t dr : Int32} {B : Nat → Int32} {W : Nat → Int64} (hL : LAY S r) (c : CR I J 28 B W) (hQ : QC Q S I J r (q144 B f t dr).1 (q144 B f t dr).2) : xcall (d + 6) 142 [.ref 0, .int f, .int t, .int dr] S I J r Q := by
  have hv := vo_le (B := B) (s := 0) (f := f) (t := t) (dr := dr)
  refine E142 hL (c119 hL c ?_)
  show xrun z0 _ Q 142 8 [_, _, _, _, _, _, _, _, _] [.int (nI (vo B 0 f t dr))] S I J r _ _
  refine K142_8 hL ?_
  by_cases h : vo B 0 f t dr = 0
  · obtain ⟨q1, q2, q3, q4, q5⟩ := vo_0 h
    obtain ⟨p1, p2⟩ := okx_cl q1
    obtain ⟨p3, p4⟩ := okx_cl q2
    obtain ⟨p5, p6, p7⟩ := dr_cl q4 q5
    rw [q144, if_neg (by rw [h]; decide)] at hQ
    unfold FEW at hQ
    generalize cl f = f' at *
    generalize cl t = t' at *
    generalize cl dr = dr' at *
    subst p2 p4 p7
    rw [h]
    exact yes rfl (k142 hL c p1 p3 p5 hQ (2 ^ bn B 3) 0 I _ _ (by omega) (fr3.r 19 I))
  · rw [q144, if_pos h] at hQ
    exact no (fun q => h ((nI_eq (by omega) (by decide)).mp q)) (E31 hL (K142_21 (hQ.e (ix.r I))))
theorem c144 {d : Nat} {Q : XQ} {S : XS} {I : XI} {J : XJ} {r : XR} {f t dr : Int32} {B : Nat → Int32} {W : Nat → Int64} (hL : LAY S r) (c : CR I J 28 B W) (hQ : QC Q S I J r (q144 B f t dr).1 (q144 B f t dr).2) : xcall (d + 7) 144 [.ref 0, .int f, .int t, .int dr] S I J r Q :=
  E144 hL (c142 hL c (fun I' h1 h2 => K144_7 (hQ I' h1 h2)))
theorem few_lt {B : Nat → Int32} (h : WF B) {f t dr b : Nat} (hb : FEW B f t dr = some b) : b < 64 := by
  have := bs_lt hb
  have := pow_le h.c.2
  omega
def q141 (B : Nat → Int32) (f t dr : Int32) : Nat × Int32 := if vo B 0 f t dr ≠ 0 then (vo B 0 f t dr, -1) else match FEW B (cl f) (cl t) (cl dr) with
  | none => (8, -1)
  | some b => (0, nI (ctN (nI b) 32))
theorem c141 {d : Nat} {Q : XQ} {S : XS} {I : XI} {J : XJ} {r : XR} {f t dr : Int32} {B : Nat → Int32} {W : Nat → Int64} (hL : LAY S r) (c : CR I J 28 B W) (hQ : QC Q S I J r (q141 B f t dr).1 (q141 B f t dr).2) : xcall (d + 7) 141 [.ref 0, .int f, .int t, .int dr] S I J r Q := by
  refine E141 hL (c142 hL c (fun I' h1 h2 => K141_7 ?_))
  unfold q144 at h2 ⊢
  by_cases h : vo B 0 f t dr ≠ 0
  · rw [if_pos h] at h2 ⊢
    rw [q141, if_pos h] at hQ
    exact nno rfl (K141_28 (hQ I' h1 h2))
  · rw [if_neg h] at h2 ⊢
    rw [q141, if_neg h] at hQ
    cases q : FEW B (cl f) (cl t) (cl dr)
    · rw [q] at hQ h2
      exact nno rfl (K141_28 (hQ I' h1 h2))
    · rw [q] at hQ h2
      have := few_lt c.wf q
      exact yes (nI_m1 (by omega)) (c78 (K141_25 hL (E83 hL (K141_28 (hQ.e h1)))))
theorem bsI_0 {P : Nat → Bool} {n : Nat} (hn : n < 100000) : (bsI (bs P n) < 0) ↔ bs P n = none := by
  cases h : bs P n
  · exact ⟨fun _ => rfl, fun _ => by decide⟩
  · have := bs_lt h
    exact ⟨fun q => absurd q (nI_pos (by omega)), fun q => by cases q⟩
theorem f73.w {I I' : XI} (g : f73 I I') (w : WF (I 70)) : WF (I' 70) := by rw [g.b]; exact w
theorem f73.t {I I' I2 : XI} (h : f73 I I') (h2 : f73 I' I2) : f73 I I2 := fun q hq => (h2 q hq).trans (h q hq)
theorem k308 {d : Nat} {Q : XQ} {S : XS} {I : XI} {J : XJ} {r : XR} {cu su f t dr : Nat} (hL : LAY S r) (w : WF (I 70)) (hf : f < ce (I 70)) (ht : t < ce (I 70)) (hd : dr ≤ 10)
    (hQ : ∀ I', f73 I I' → Q (some (.int (bsI (bs (fun s => safe (I 70) (nI s) f t dr) (2 ^ bn (I 70) 3))))) S I' J r) :
    ∀ j i I1, i + j = 2 ^ bn (I 70) 3 → f73 I I1 → xrun z0 (xcall (d + 7)) Q 308 6 [.ref 65, .int (nI f), .int (nI t), .int (nI dr), .int (bsI (bs (fun s => safe (I 70) (nI s) f t dr) i)), .int (nI i)] [] S I1 J r cu su
  | 0, i, I1, hi, g => by
    have hp := pow_le w.c.2
    have hp0 : 0 < 2 ^ bn (I 70) 3 := Nat.two_pow_pos _
    have e : i = 2 ^ bn (I 70) 3 := by omega
    subst e
    refine K308_6 hL (r292 hL (g.w w) (K308_12 hL (yes ?_ (hQ I1 g))))
    rw [g.b, nI_ltI (by omega) (by omega)]; omega
  | j + 1, i, I1, hi, g => by
    have hp := pow_le w.c.2
    have hp0 : 0 < 2 ^ bn (I 70) 3 := Nat.two_pow_pos _
    have hs := bs_s (P := fun s => safe (I 70) (nI s) f t dr) (n := i) (by omega)
    have hc := ct_6 (s := i) (by omega)
    have ih := fun I2 (g2 : f73 I I2) => k308 (d := d) (cu := cu) (su := su) hL w hf ht hd hQ j (i + 1) I2 (by omega) g2
    rw [hs] at ih
    have go : ctN (nI i) 32 < bsN (bs (fun s => safe (I 70) (nI s) f t dr) i) → xcall (d + 7) 309 [.ref 65, .int (nI i), .int (nI f), .int (nI t), .int (nI dr)] S I1 J r (fun v S1 I1 J1 r1 => xrun z0 (xcall (d + 7)) Q 308 42 [.ref 65, .int (nI f), .int (nI t), .int (nI dr), .int (bsI (bs (fun s => safe (I 70) (nI s) f t dr) i)), .int (nI i)] (v.toList ++ []) S1 I1 J1 r1 cu su) := fun q =>
      r309 hL (g.w w) (by rw [g.b]; exact hf) (by rw [g.b]; exact ht) hd (fun I2 g2 => by
        rw [g.b]
        by_cases q2 : safe (I 70) (nI i) f t dr = true
        · rw [if_pos q2]
          refine K308_42 (no (by decide) ?_)
          have := ih I2 (g.t g2)
          rw [if_pos ⟨q, q2⟩] at this
          rw [nI_add]; exact this
        · rw [if_neg q2]
          refine K308_42 (yes rfl ?_)
          have := ih I2 (g.t g2)
          rw [if_neg (fun h => q2 h.2)] at this
          rw [nI_add]; exact this)
    refine K308_6 hL (r292 hL (g.w w) (K308_12 hL (no ?_ ?_)))
    · rw [g.b, nI_ltI (by omega) (by omega)]; omega
    have hz := bsI_0 (P := fun s => safe (I 70) (nI s) f t dr) (n := i) (by omega)
    cases hb : bs (fun s => safe (I 70) (nI s) f t dr) i
    · rw [hb] at go
      exact yes (by decide) (go (by show _ < 7; omega))
    · rename_i b
      have hbl := bs_lt hb
      rw [hb] at go ih
      rw [show bsN (some b) = ctN (nI b) 32 from rfl] at go
      rw [show bsI (some b) = nI b from rfl] at go ⊢
      have h30 := ct_set (s := i) (by omega)
      have h30' := ct_set (s := b) (by omega)
      have l1 := ctN_le (nI i) 30
      have l2 := ctN_le (nI b) 30
      refine no (nI_pos (by omega)) (c282 (K308_25 (c282 (K308_30 hL ?_))))
      by_cases q : ctN (nI i) 32 < ctN (nI b) 32
      · exact no (by rw [nI_leI (by omega) (by omega)]; omega) (go q)
      · refine yes (by rw [nI_leI (by omega) (by omega)]; omega) ?_
        have := ih I1 g
        rw [if_neg (fun h => q h.1)] at this
        rw [nI_add]; exact this
theorem r308 {d : Nat} {Q : XQ} {S : XS} {I : XI} {J : XJ} {r : XR} {f t dr : Nat} (hL : LAY S r) (w : WF (I 70)) (hf : f < ce (I 70)) (ht : t < ce (I 70)) (hd : dr ≤ 10) (hQ : ∀ I', f73 I I' → Q (some (.int (bsI (FEW (I 70) f t dr)))) S I' J r) : xcall (d + 8) 308 [.ref 65, .int (nI f), .int (nI t), .int (nI dr)] S I J r Q :=
  E308 (k308 hL w hf ht hd hQ (2 ^ bn (I 70) 3) 0 I (by omega) (fun _ _ => rfl))
theorem r310 {d : Nat} {Q : XQ} {S : XS} {I : XI} {J : XJ} {r : XR} {f t dr : Int32} (hL : LAY S r) (w : WF (I 70)) (hQ : QM Q S I J r (q144 (I 70) f t dr).1 (q144 (I 70) f t dr).2) : xcall (d + 9) 310 [.ref 65, .int f, .int t, .int dr] S I J r Q := by
  have hv := vo_le (B := I 70) (s := 0) (f := f) (t := t) (dr := dr)
  refine E310 hL (r289 hL w (K310_14 hL ?_))
  rw [show (up2 I 65 1 (nI 0)) 70 = I 70 from rfl, show nI 0 = (0 : Int32) from rfl]
  have i1 : ix I (up2 I 65 1 0) := (ix.r I).u rfl
  by_cases h : vo (I 70) 0 f t dr = 0
  · obtain ⟨q1, q2, q3, q4, q5⟩ := vo_0 h
    obtain ⟨p1, p2⟩ := okx_cl q1
    obtain ⟨p3, p4⟩ := okx_cl q2
    obtain ⟨p5, p6, p7⟩ := dr_cl q4 q5
    rw [q144, if_neg (by rw [h]; decide)] at hQ
    refine yes ((up_le0 (by omega)).mpr h) ?_
    generalize cl f = f' at *
    generalize cl t = t' at *
    generalize cl dr = dr' at *
    subst p2 p4 p7
    rw [h]
    refine r308 hL w p1 p3 p5 (fun I1 g => ?_)
    show xrun z0 _ Q 310 33 [_, _, _, _, _] [.int (bsI (FEW (I 70) f' t' dr'))] S I1 J r _ _
    refine K310_33 hL ?_
    have i2 : ix I I1 := (i1.u rfl).t g.ix
    have g13 : I1 0 13 = I 0 13 := by rw [g 0 (by decide)]; rfl
    have g0 : I1 65 0 = nI 0 := by rw [g 65 (by decide)]; rfl
    cases q : FEW (I 70) f' t' dr'
    · rw [q] at hQ
      exact no (by decide) (E261 hL (K310_46 (hQ.e i2 g13)))
    · rw [q] at hQ
      have := few_lt w q
      exact yes (nI_pos' (by omega)) (hQ I1 i2 g13 g0)
  · rw [q144, if_pos h] at hQ
    exact no (fun q => h ((up_le0 (by omega)).mp q)) (hQ.e i1 rfl)
theorem r307 {d : Nat} {Q : XQ} {S : XS} {I : XI} {J : XJ} {r : XR} {f t dr : Int32} (hL : LAY S r) (w : WF (I 70)) (hQ : QM Q S I J r (q141 (I 70) f t dr).1 (q141 (I 70) f t dr).2) : xcall (d + 9) 307 [.ref 65, .int f, .int t, .int dr] S I J r Q := by
  have hv := vo_le (B := I 70) (s := 0) (f := f) (t := t) (dr := dr)
  refine E307 hL (r289 hL w (K307_14 hL ?_))
  rw [show (up2 I 65 1 (nI 0)) 70 = I 70 from rfl, show nI 0 = (0 : Int32) from rfl]
  have i1 : ix I (up2 I 65 1 0) := (ix.r I).u rfl
  by_cases h : vo (I 70) 0 f t dr = 0
  · obtain ⟨q1, q2, q3, q4, q5⟩ := vo_0 h
    obtain ⟨p1, p2⟩ := okx_cl q1
    obtain ⟨p3, p4⟩ := okx_cl q2
    obtain ⟨p5, p6, p7⟩ := dr_cl q4 q5
    rw [q141, if_neg (by rw [h]; decide)] at hQ
    refine yes ((up_le0 (by omega)).mpr h) ?_
    generalize cl f = f' at *
    generalize cl t = t' at *
    generalize cl dr = dr' at *
    subst p2 p4 p7
    rw [h]
    refine r308 hL w p1 p3 p5 (fun I1 g => ?_)
    show xrun z0 _ Q 307 33 [_, _, _, _, _] [.int (bsI (FEW (I 70) f' t' dr'))] S I1 J r _ _
    refine K307_33 hL ?_
    have i2 : ix I I1 := (i1.u rfl).t g.ix
    have g13 : I1 0 13 = I 0 13 := by rw [g 0 (by decide)]; rfl
    have g0 : I1 65 0 = nI 0 := by rw [g 65 (by decide)]; rfl
    cases q : FEW (I 70) f' t' dr'
    · rw [q] at hQ
      exact no (by decide) (E261 hL (K307_46 (K307_54 (hQ.e i2 g13))))
    · rw [q] at hQ
      have h64 := few_lt w q
      refine yes (nI_pos' (by omega)) (c282 (K307_54 ?_))
      show Q (some (.int (nI (ctN (nI _) 30)))) S I1 J r
      rw [← ct_set h64]
      exact hQ I1 i2 g13 g0
  · rw [q141, if_pos h] at hQ
    exact no (fun q => h ((up_le0 (by omega)).mp q)) (hQ.e i1 rfl)
/-! the deepest draft -/
def dpt (P : Nat → Bool) : Nat → Nat
  | 0 => 0
  | n + 1 => if P (n + 1) = true then n + 1 else dpt P n
theorem dpt_z {P : Nat → Bool} : dpt P 0 = 0 := rfl
theorem dpt_s {P : Nat → Bool} {n : Nat} : dpt P (n + 1) = if P (n + 1) = true then n + 1 else dpt P n := rfl
def q145 (B : Nat → Int32) (s f t : Int32) : Nat × Int32 := if vo B s f t (nI 1) ≠ 0 then (vo B s f t (nI 1), -1) else if dpt (safe B s (cl f) (cl t)) 10 = 0 then (8, -1) else (0, nI (dpt (safe B s (cl f) (cl t)) 10))
theorem k145 {d : Nat} {Q : XQ} {S : XS} {I : XI} {J : XJ} {r : XR} {cu su f t : Nat} {s : Int32} {B : Nat → Int32} {W : Nat → Int64} {w1 w2 w3 : Value} (hL : LAY S r) (c : CR I J 28 B W) (hf : f < ce B) (q : WL B (ope B s) f t < 30) (e1 : I 19 1 = nI (WL B (ope B s) f t + 1)) (e2 : ∀ i, i ≤ WL B (ope B s) f t → I 20 i = nI (WY B (ope B s) f t i))
    {mm : Nat} (h0 : mm = 0 → Q (some (.int (-1))) S (up2 I 0 13 (nI 8)) J r) (h1 : mm ≠ 0 → Q (some (.int (nI mm))) S (up2 I 0 13 (nI 0)) J r) :
    ∀ n w4, n ≤ 10 → mm = dpt (safe B s f t) n → xrun z0 (xcall (d + 3)) Q 145 26 [.ref 0, w1, w2, w3, w4, .int (nI n)] [] S I J r cu su := by
  intro n
  induction n with
  | zero =>
    intro w4 hn he
    exact K145_26 hL (yes (by decide) (E31 hL (K145_68 (h0 (he.trans dpt_z)))))
  | succ n ih =>
    intro w4 hn he
    refine K145_26 hL (no (by rw [nI_ltI (by omega) (by decide)]; omega) (c132 (lay4_19 hL) (lay0_28 hL) c hn q (WY_32 c.wf hf q) e1 e2 (K145_45 hL ?_)))
    rw [dpt_s (P := safe B s f t) (n := n)] at he
    by_cases q6 : ST1 B s f t (n + 1) = -1
    · rw [if_pos (by unfold safe; rw [decide_eq_true_eq]; exact ⟨q, q6⟩)] at he
      subst he
      exact nno q6 (E83 hL (K145_55 (h1 (by omega))))
    · rw [if_neg (by unfold safe; rw [decide_eq_true_eq]; exact fun h => q6 h.2)] at he
      refine yes q6 ?_
      rw [pk_m1]
      exact ih _ (by omega) he
theorem dpt_0 {P : Nat → Bool} (h : ∀ n, P n = false) : ∀ n, dpt P n = 0
  | 0 => rfl
  | n + 1 => by rw [dpt, if_neg (by rw [h]; decide), dpt_0 h n]
theorem c145 {d : Nat} {Q : XQ} {S : XS} {I : XI} {J : XJ} {r : XR} {s f t : Int32} {B : Nat → Int32} {W : Nat → Int64} (hL : LAY S r) (c : CR I J 28 B W) (hQ : QC Q S I J r (q145 B s f t).1 (q145 B s f t).2) : xcall (d + 6) 145 [.ref 0, .int s, .int f, .int t] S I J r Q := by
  have hv := vo_le (B := B) (s := s) (f := f) (t := t) (dr := nI 1)
  refine E145 hL (c118 hL c (fun h => ?_) (fun h I' g e => ?_))
  · rw [q145, if_pos h] at hQ
    exact K145_8 hL (no (fun q => h ((nI_eq (by omega) (by decide)).mp q)) (E31 hL (K145_21 (hQ.e (ix.r I)))))
  · rw [q145, if_neg (by rw [h]; decide)] at hQ
    have hi := g.ix (Or.inl rfl)
    by_cases q : WL B (ope B s) (cl f) (cl t) < 30
    · rw [if_pos q]
      refine K145_8 hL (yes rfl (k145 (d := d + 2) (mm := dpt (safe B s (cl f) (cl t)) 10) hL (hi.cr c) (okx_cl (vo_0 h).1).1 q (e q).1 (e q).2 (fun h0 => ?_) (fun h1 => ?_) 10 _ (by decide) rfl))
      · rw [if_pos h0] at hQ; exact hQ.e hi
      · rw [if_neg h1] at hQ; exact hQ.e hi
    · rw [if_neg q]
      rw [if_pos (dpt_0 (fun n => by unfold safe; rw [decide_eq_false_iff_not]; exact fun h => q h.1) 10)] at hQ
      exact K145_8 hL (no (by decide) (E31 hL (K145_21 (hQ.e hi))))
theorem k311 {d : Nat} {Q : XQ} {S : XS} {I : XI} {J : XJ} {r : XR} {cu su f t : Nat} {s : Int32} (hL : LAY S r) (w : WF (I 70)) (hf : f < ce (I 70)) (ht : t < ce (I 70))
    {mm : Nat} (h0 : ∀ I', f73 I I' → mm = 0 → Q (some (.int (-1))) S (up2 I' 65 0 (nI 8)) J r) (h1 : ∀ I', f73 I I' → mm ≠ 0 → Q (some (.int (nI mm))) S I' J r) :
    ∀ n I1, n ≤ 10 → f73 I I1 → mm = dpt (safe (I 70) s f t) n → xrun z0 (xcall (d + 7)) Q 311 29 [.ref 65, .int s, .int (nI f), .int (nI t), .int (nI n)] [] S I1 J r cu su := by
  intro n
  induction n with
  | zero =>
    intro I1 hn g he
    exact K311_29 hL (yes (by decide) (E261 hL (K311_61 (h0 I1 g (he.trans dpt_z)))))
  | succ n ih =>
    intro I1 hn g he
    refine K311_29 hL (no (nI_nle (by omega) (by omega)) (r309 hL (g.w w) (by rw [g.b]; exact hf) (by rw [g.b]; exact ht) hn (fun I2 g2 => K311_43 ?_)))
    rw [g.b]
    rw [dpt_s (P := safe (I 70) s f t) (n := n)] at he
    by_cases q6 : safe (I 70) s f t (n + 1) = true
    · rw [if_pos q6] at he ⊢
      subst he
      exact no (by decide) (h1 I2 (g.t g2) (by omega))
    · rw [if_neg q6] at he ⊢
      refine yes rfl ?_
      rw [pk_m1]
      exact ih I2 (by omega) (g.t g2) he
theorem r311 {d : Nat} {Q : XQ} {S : XS} {I : XI} {J : XJ} {r : XR} {s f t : Int32} (hL : LAY S r) (w : WF (I 70)) (hQ : QM Q S I J r (q145 (I 70) s f t).1 (q145 (I 70) s f t).2) : xcall (d + 8) 311 [.ref 65, .int s, .int f, .int t] S I J r Q := by
  have hv := vo_le (B := I 70) (s := s) (f := f) (t := t) (dr := nI 1)
  refine E311 hL (r290 hL w (K311_13 hL ?_))
  rw [show (up2 I 65 1 (nI 0)) 70 = I 70 from rfl]
  have i1 : ix I (up2 I 65 1 (nI 0)) := (ix.r I).u rfl
  by_cases h : vo (I 70) s f t (nI 1) = 0
  · obtain ⟨q1, q2, q3, q4, q5⟩ := vo_0 h
    obtain ⟨p1, p2⟩ := okx_cl q1
    obtain ⟨p3, p4⟩ := okx_cl q2
    rw [q145, if_neg (by rw [h]; decide)] at hQ
    refine yes ((up_le0 (by omega)).mpr h) ?_
    generalize cl f = f' at *
    generalize cl t = t' at *
    subst p2 p4
    rw [h]
    refine k311 (d := d) (mm := dpt (safe (I 70) s f' t') 10) (I := up2 (up2 I 65 1 (nI 0)) 65 0 (nI 0)) hL w p1 p3 (fun I' g h0 => ?_) (fun I' g h1 => ?_) 10 _ (by decide) (fun _ _ => rfl) rfl
    · rw [if_pos h0] at hQ
      exact hQ.e ((i1.u rfl).t g.ix) (by rw [g 0 (by decide)]; rfl)
    · rw [if_neg h1] at hQ
      exact hQ I' ((i1.u rfl).t g.ix) (by rw [g 0 (by decide)]; rfl) (by rw [g 65 (by decide)]; rfl)
  · rw [q145, if_pos h] at hQ
    exact no (fun q => h ((up_le0 (by omega)).mp q)) (hQ.e i1 rfl)
