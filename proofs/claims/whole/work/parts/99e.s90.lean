/-! the law's cases: the state's numbers, trays, texts fed, faults, lived, back -/
theorem lgs (x : Int64) : lg_cmp x x = 0 := by
  unfold lg_cmp
  simp
theorem INV.u1 {S : XS} {I : XI} {J : XJ} {r : XR} {n : Nat} {F : Nat → Int32} {m c : Nat} (h : INV S I J r n F m c) {v : Int32} : INV S (up2 I 65 1 v) J r n F m c := h.fr ((ix.r I).u rfl) (jx.r J) ⟨h.sf.1, h.sf.2.1, h.sf.2.2.1, h.sf.2.2.2.1, h.sf.2.2.2.2⟩
theorem INV.e {S : XS} {I : XI} {J : XJ} {r : XR} {n : Nat} {F : Nat → Int32} {m c s : Nat} (h : INV S I J r n F m c) : INV S (up2 (m2 (up2 I 0 13 (nI s))) 65 0 (nI s)) J r n F m c := h.q ((ix.r I).u rfl) up_e ((m2.ix _).u rfl) rfl up_e
theorem INV.e2 {S : XS} {I : XI} {J : XJ} {r : XR} {n : Nat} {F : Nat → Int32} {m c s : Nat} (h : INV S I J r n F m c) : INV S (up2 (up2 (up2 I 0 13 (nI s)) 65 1 (nI 0)) 65 0 (nI s)) J r n F m c := h.q ((ix.r I).u rfl) up_e (((ix.r _).u rfl).u rfl) rfl up_e
theorem INV.tc {S : XS} {I : XI} {J : XJ} {r : XR} {n : Nat} {F : Nat → Int32} {m c : Nat} (h : INV S I J r n F m c) : TC J (fun t i => J (5 + t) i) ∧ TM J (fun t i => J (5 + t) i) := ⟨fun _ _ _ _ => rfl, fun t ht i hi => ((h.tr t ht).2.2.2 i hi).symm⟩
/-- a tray is changed -/
theorem INV.tray {S : XS} {I I2 : XI} {J J2 : XJ} {r : XR} {n s : Nat} {F : Nat → Int32} {m c : Nat} (h : INV S I J r n F m c) (hi : ∀ q i, scr q i = false → q ≠ 9 → q ≠ 10 → q ≠ 66 → q ≠ 67 → I2 q i = I q i) (hj : ∀ q, q < 5 ∨ 8 < q → q ≠ 68 → J2 q = J q) (tr : TR I2 J2) (e1 : I2 0 13 = nI s) (e3 : I2 65 0 = nI s) : INV S I2 J2 r n F m c := by
  refine h.go (h.2.1.fr (fun q a b => funext fun i => hi q i ?_ (by omega) (by omega) (by omega) (by omega)) (hj 32 (by decide) (by decide)) (fun i _ => hi 70 i rfl (by decide) (by decide) (by decide) (by decide)) (fun k _ => by rw [hj 72 (by decide) (by decide)])) tr (h.tp.cg (hi 0 12 rfl (by decide) (by decide) (by decide) (by decide)) (fun i => hi 11 i rfl (by decide) (by decide) (by decide) (by decide)) (hi 65 8 rfl (by decide) (by decide) (by decide) (by decide)) (fun i => hi 69 i rfl (by decide) (by decide) (by decide) (by decide))) ⟨e1.trans e3.symm, ?_, ?_, ?_, ?_⟩ (h.lv.cg (hi 0 16 rfl (by decide) (by decide) (by decide) (by decide)) (hi 65 32 rfl (by decide) (by decide) (by decide) (by decide)) (fun i => hi 27 i rfl (by decide) (by decide) (by decide) (by decide)) (fun i => hi 75 i rfl (by decide) (by decide) (by decide) (by decide))) ⟨hi 0 11 rfl (by decide) (by decide) (by decide) (by decide), hi 65 23 rfl (by decide) (by decide) (by decide) (by decide), fun q hq => ⟨funext fun i => hi q i (scr_hi hq) (by omega) (by omega) (by omega) (by omega), hj q (by omega) (by omega)⟩, fun k _ _ => hi 70 k rfl (by decide) (by decide) (by decide) (by decide), fun k _ _ => by rw [hj 72 (by decide) (by decide)]⟩
  · have : q = 28 ∨ q = 29 ∨ q = 30 ∨ q = 31 ∨ q = 32 ∨ q = 33 ∨ q = 34 ∨ q = 35 ∨ q = 36 ∨ q = 37 ∨ q = 38 ∨ q = 39 ∨ q = 40 ∨ q = 41 ∨ q = 42 ∨ q = 43 ∨ q = 44 ∨ q = 45 := by omega
    rcases this with rfl | rfl | rfl | rfl | rfl | rfl | rfl | rfl | rfl | rfl | rfl | rfl | rfl | rfl | rfl | rfl | rfl | rfl <;> rfl
  · rw [hi 0 14 rfl (by decide) (by decide) (by decide) (by decide), hi 65 10 rfl (by decide) (by decide) (by decide) (by decide)]; exact h.sf.2.1
  · rw [hi 0 15 rfl (by decide) (by decide) (by decide) (by decide), hi 65 11 rfl (by decide) (by decide) (by decide) (by decide)]; exact h.sf.2.2.1
  · rw [hj 1 (by decide) (by decide), hj 65 (by decide) (by decide)]; exact h.sf.2.2.2.1
  · rw [hj 1 (by decide) (by decide), hj 65 (by decide) (by decide)]; exact h.sf.2.2.2.2
theorem TR.tm {I I2 : XI} {J J2 : XJ} {T : Nat → Nat → Int64} (t : TR I J) (hi : ∀ q i, q = 9 ∨ q = 10 ∨ q = 66 ∨ q = 67 → I2 q i = I q i) (a : TC J2 T) (b : TM J2 T) : TR I2 J2 := fun k hk => by
  rw [hi 66 k (by decide), hi 9 k (by decide), hi 10 k (by decide), hi 67 k (by decide)]
  exact ⟨(t k hk).1, (t k hk).2.1, (t k hk).2.2.1, fun i hi => (a k hk i hi).trans (b k hk i hi).symm⟩
theorem INV.tT {S : XS} {I I2 : XI} {J J1 J2 : XJ} {r : XR} {n s : Nat} {F : Nat → Int32} {m c : Nat} {T : Nat → Nat → Int64} (h : INV S I J r n F m c) (j1 : jc J J1) (t1 : TC J1 T) (j2 : jf 68 J1 J2) (t2 : TM J2 T) (h2 : ix (up2 I 0 13 (nI s)) I2) (e2 : I2 0 13 = nI s) (e3 : I2 65 0 = nI s) : INV S I2 J2 r n F m c := by
  have hx : ix I I2 := ix.t ((ix.r I).u rfl) h2
  refine h.tray (s := s) (fun q i hs _ _ _ _ => hx q i hs) (fun q a b => (j2 q b).trans (j1 q a)) (h.tr.tm (T := T) (fun q i hq => hx q i (by rcases hq with rfl | rfl | rfl | rfl <;> rfl)) (fun t ht i hi => ?_) t2) e2 e3
  rw [j2 (5 + t) (by omega)]
  exact t1 t ht i hi
theorem INV.t16 {S : XS} {I : XI} {J J1 J2 : XJ} {r : XR} {n : Nat} {F : Nat → Int32} {m c : Nat} {x y z : Int32} {T : Nat → Nat → Int64} (h : INV S I J r n F m c) (e : s16 x y z = 0) (j1 : jc J J1) (t1 : TC J1 (tz T (cl x) (cl z))) (j2 : jf 68 J1 J2) (t2 : TM J2 (tz T (cl x) (cl z))) : INV S (up2 (up2 (up2 (up2 (up2 (up2 (up2 I 9 (cl x) y) 10 (cl x) z) 0 13 (nI 0)) 65 1 (nI 0)) 65 0 (nI 0)) 66 (cl x) y) 67 (cl x) z) J2 r n F m c := by
  obtain ⟨hx, hy, hz⟩ := s16_0 e
  obtain ⟨x1, x2⟩ := okx_cl hx
  obtain ⟨y1, y2⟩ := okx_cl hy
  obtain ⟨z1, z2⟩ := okx_cl hz
  refine h.tray (s := 0) (fun q i hs a b c d => ?_) (fun q a b => (j2 q b).trans (j1 q a)) (fun t ht => ?_) ?_ ?_
  · rw [up_o d, up_o c]
    by_cases e65 : q = 65
    · subst e65
      have h0 : i ≠ 0 := fun q => by subst q; cases hs
      have h1 : i ≠ 1 := fun q => by subst q; cases hs
      rw [up_i h0, up_i h1, up_o (by decide), up_o (by decide), up_o (by decide)]
    · rw [up_o e65, up_o e65]
      by_cases e0 : q = 0
      · subst e0
        have h0 : i ≠ 13 := fun q => by subst q; cases hs
        rw [up_i h0, up_o (by decide), up_o (by decide)]
      · rw [up_o e0, up_o b, up_o a]
  · have g66 : up2 (up2 (up2 (up2 (up2 (up2 (up2 I 9 (cl x) y) 10 (cl x) z) 0 13 (nI 0)) 65 1 (nI 0)) 65 0 (nI 0)) 66 (cl x) y) 67 (cl x) z 66 t = if t = cl x then y else I 66 t := by
      rw [up_o (by decide)]
      split
      · rename_i q; subst q; rw [up_e]
      · rename_i q; rw [up_i q]; rfl
    have g67 : up2 (up2 (up2 (up2 (up2 (up2 (up2 I 9 (cl x) y) 10 (cl x) z) 0 13 (nI 0)) 65 1 (nI 0)) 65 0 (nI 0)) 66 (cl x) y) 67 (cl x) z 67 t = if t = cl x then z else I 67 t := by
      split
      · rename_i q; subst q; rw [up_e]
      · rename_i q; rw [up_i q]; rfl
    have g9 : up2 (up2 (up2 (up2 (up2 (up2 (up2 I 9 (cl x) y) 10 (cl x) z) 0 13 (nI 0)) 65 1 (nI 0)) 65 0 (nI 0)) 66 (cl x) y) 67 (cl x) z 9 t = if t = cl x then y else I 9 t := by
      rw [up_o (by decide), up_o (by decide), up_o (by decide), up_o (by decide), up_o (by decide), up_o (by decide)]
      split
      · rename_i q; subst q; rw [up_e]
      · rename_i q; rw [up_i q]
    have g10 : up2 (up2 (up2 (up2 (up2 (up2 (up2 I 9 (cl x) y) 10 (cl x) z) 0 13 (nI 0)) 65 1 (nI 0)) 65 0 (nI 0)) 66 (cl x) y) 67 (cl x) z 10 t = if t = cl x then z else I 10 t := by
      rw [up_o (by decide), up_o (by decide), up_o (by decide), up_o (by decide), up_o (by decide)]
      split
      · rename_i q; subst q; rw [up_e]
      · rename_i q; rw [up_i q, up_o (by decide)]
    rw [g66, g67, g9, g10]
    refine ⟨?_, ?_, ?_, fun i hi => ?_⟩
    · split
      · exact ⟨cl y, y1, y2, y2⟩
      · exact (h.tr t ht).1
    · split
      · rfl
      · exact (h.tr t ht).2.1
    · split
      · exact Or.inr ⟨cl z, by omega, z2⟩
      · exact (h.tr t ht).2.2.1
    · rw [j2 (5 + t) (by omega)]
      exact (t1 t ht i hi).trans (t2 t ht i hi).symm
  · rfl
  · rfl
theorem bt4_r (x : Int32) (k : Nat) : -128 ≤ (bt4 x k).toInt ∧ (bt4 x k).toInt ≤ 127 := by
  unfold bt4
  have h1 := Int8.le_toInt (x >>> (nI k &&& 31)).toInt8.toInt32.toInt8
  have h2 := Int8.toInt_lt (x >>> (nI k &&& 31)).toInt8.toInt32.toInt8
  rw [Int8.toInt_toInt32]
  omega
theorem fd_r {F : Nat → Int32} {n : Nat} {x : Int32} (h : ∀ i, i < n → -128 ≤ (F i).toInt ∧ (F i).toInt ≤ 127) : ∀ i, i < n + 4 → -128 ≤ (fd F n x i).toInt ∧ (fd F n x i).toInt ≤ 127 := fun i hi => by
  unfold fd ap
  split
  · exact bt4_r _ _
  split
  · exact bt4_r _ _
  split
  · exact bt4_r _ _
  split
  · exact bt4_r _ _
  exact h i (by omega)
theorem INV.fd {S : XS} {I I1 I2 : XI} {J : XJ} {r : XR} {n : Nat} {F : Nat → Int32} {m c' : Nat} {a b c e f : Int32} (h : INV S I J r n F m c') (hn : n ≤ 880) (f1 : fx 0 12 11 I I1) (t1 : TP I1 0 12 11 (n + 20) (fd5 F n a b c e f)) (f2 : fx 65 8 69 (up2 I1 65 1 (nI 0)) I2) (t2 : TP I2 65 8 69 (n + 20) (fd5 F n a b c e f)) : INV S I2 J r (n + 20) (fd5 F n a b c e f) m c' := by
  have g : ∀ x i, x ≠ 11 → x ≠ 69 → ¬ (x = 0 ∧ i = 12) → ¬ (x = 65 ∧ (i = 8 ∨ i = 1)) → I2 x i = I x i := fun x i a1 a2 a3 a4 => by
    rw [f2 x i a2 (by omega)]
    by_cases e : x = 65
    · subst e; rw [up_i (by omega)]; exact f1 65 i a1 a3
    · rw [up_o e]; exact f1 x i a1 a3
  refine h.go (h.2.1.fr (fun q a b => funext fun i => g q i (by omega) (by omega) (by omega) (by omega)) rfl (fun i _ => g 70 i (by decide) (by decide) (by omega) (by omega)) (fun _ _ => rfl)) (h.tr.cg (fun q i hq => g q i (by omega) (by omega) (by omega) (by omega)) (fun _ _ _ => rfl)) ⟨t1.cg ?_ (fun i => ?_), t2, by omega, ?_⟩ ⟨?_, ?_, ?_, h.sf.2.2.2.1, h.sf.2.2.2.2⟩ (h.lv.cg (g 0 16 (by decide) (by decide) (by omega) (by omega)) (g 65 32 (by decide) (by decide) (by omega) (by omega)) (fun i => g 27 i (by decide) (by decide) (by omega) (by omega)) (fun i => g 75 i (by decide) (by decide) (by omega) (by omega))) ⟨g 0 11 (by decide) (by decide) (by omega) (by omega), g 65 23 (by decide) (by decide) (by omega) (by omega), fun q hq => ⟨funext fun i => g q i (by omega) (by omega) (by omega) (by omega), rfl⟩, fun k _ _ => g 70 k (by decide) (by decide) (by omega) (by omega), fun _ _ _ => rfl⟩
  · rw [f2 0 12 (by decide) (by omega), up_o (by decide)]
  · rw [f2 11 i (by decide) (by omega), up_o (by decide)]
  · unfold fd5
    exact fd_r (fd_r (fd_r (fd_r (fd_r h.tp.2.2.2))))
  · rw [g 0 13 (by decide) (by decide) (by omega) (by omega), g 65 0 (by decide) (by decide) (by omega) (by omega)]; exact h.sf.1
  · rw [g 0 14 (by decide) (by decide) (by omega) (by omega), g 65 10 (by decide) (by decide) (by omega) (by omega)]; exact h.sf.2.1
  · rw [g 0 15 (by decide) (by decide) (by omega) (by omega), g 65 11 (by decide) (by decide) (by omega) (by omega)]; exact h.sf.2.2.1
theorem LC13 {sc : Nat × (Nat → Int32)} {Q : XQ} {x3 : Int32} {cu su : Nat} {S : XS} {I : XI} {J : XJ} {r : XR} {n : Nat} {F : Nat → Int32} {m c : Nat} (h : INV S I J r n F m c) (v : ∀ i, i ≤ 5 → vp_in (x3 + nI i) sc.1) (K : KL sc Q x3 cu su) : xcall 100 13 [.ref 0] S I J r (fun v S1 I1 J1 r1 => xrun sc (xcall 100) Q 351 260 [.retAddr 3000, .ref 0, .ref 65, .int x3] (v.toList ++ []) S1 I1 J1 r1 cu su) :=
  c13 h.lay (K351_260 h.lay (r191 h.lay (K351_264 ⟨fun _ => K _ _ _ _ _ _ _ _ h.u1, fun g => absurd h.sf.1 g⟩)))
theorem LC14 {sc : Nat × (Nat → Int32)} {Q : XQ} {x3 : Int32} {cu su : Nat} {S : XS} {I : XI} {J : XJ} {r : XR} {n : Nat} {F : Nat → Int32} {m c : Nat} (h : INV S I J r n F m c) (v : ∀ i, i ≤ 5 → vp_in (x3 + nI i) sc.1) (K : KL sc Q x3 cu su) : xcall 100 14 [.ref 0] S I J r (fun v S1 I1 J1 r1 => xrun sc (xcall 100) Q 351 273 [.retAddr 3000, .ref 0, .ref 65, .int x3] (v.toList ++ []) S1 I1 J1 r1 cu su) :=
  E14 h.lay (K351_273 h.lay (E192 h.lay (K351_277 ⟨fun _ => K _ _ _ _ _ _ _ _ h.u1, fun g => absurd (by rw [h.sf.2.2.2.1]; exact lgs _) g⟩)))
theorem LC15 {sc : Nat × (Nat → Int32)} {Q : XQ} {x3 : Int32} {cu su : Nat} {S : XS} {I : XI} {J : XJ} {r : XR} {n : Nat} {F : Nat → Int32} {m c : Nat} (h : INV S I J r n F m c) (v : ∀ i, i ≤ 5 → vp_in (x3 + nI i) sc.1) (K : KL sc Q x3 cu su) : xcall 100 15 [.ref 0] S I J r (fun v S1 I1 J1 r1 => xrun sc (xcall 100) Q 351 287 [.retAddr 3000, .ref 0, .ref 65, .int x3] (v.toList ++ []) S1 I1 J1 r1 cu su) :=
  E15 h.lay (K351_287 h.lay (E193 h.lay (K351_291 ⟨fun _ => K _ _ _ _ _ _ _ _ h.u1, fun g => absurd (by rw [h.sf.2.2.2.2]; exact lgs _) g⟩)))
theorem LC97 {sc : Nat × (Nat → Int32)} {Q : XQ} {x3 : Int32} {cu su : Nat} {S : XS} {I : XI} {J : XJ} {r : XR} {n : Nat} {F : Nat → Int32} {m c : Nat} (h : INV S I J r n F m c) (v : ∀ i, i ≤ 5 → vp_in (x3 + nI i) sc.1) (K : KL sc Q x3 cu su) : xcall 100 97 [.ref 0, .int (sc.2 ((x3 + (nI 1))).toNatClampNeg)] S I J r (fun v S1 I1 J1 r1 => xrun sc (xcall 100) Q 351 628 [.retAddr 3000, .ref 0, .ref 65, .int x3] (v.toList ++ []) S1 I1 J1 r1 cu su) :=
  c97 h.lay (K351_628 h.lay ⟨v 1 (by decide), r204 h.lay (K351_637 ⟨fun _ => K _ _ _ _ _ _ _ _ h.u1, fun g => absurd (by rw [h.sf.2.1, h.sf.2.2.1]) g⟩)⟩)
theorem LC184 {sc : Nat × (Nat → Int32)} {Q : XQ} {x3 : Int32} {cu su : Nat} {S : XS} {I : XI} {J : XJ} {r : XR} {n : Nat} {F : Nat → Int32} {m c : Nat} (h : INV S I J r n F m c) (v : ∀ i, i ≤ 5 → vp_in (x3 + nI i) sc.1) (K : KL sc Q x3 cu su) : xcall 100 184 [.ref 0, .int (sc.2 ((x3 + (nI 1))).toNatClampNeg)] S I J r (fun v S1 I1 J1 r1 => xrun sc (xcall 100) Q 351 1868 [.retAddr 3000, .ref 0, .ref 65, .int x3] (v.toList ++ []) S1 I1 J1 r1 cu su) :=by
  refine c184 h.lay (K351_1868 h.lay ⟨v 1 (by decide), r347 h.lay ?_⟩)
  have e : ∀ y, f184 (up2 I 0 13 (nI (f184 (I 0 16) (I 27) y).1) 65 32) (up2 I 0 13 (nI (f184 (I 0 16) (I 27) y).1) 75) y = f184 (I 0 16) (I 27) y := fun y => by
    rw [up_o (by decide), up_o (by decide), ← h.lv.1]
    unfold f184
    split
    · rename_i hx
      obtain ⟨x1, x2, x3⟩ := okr_cl (lo := 0) (hi := 4) hx (by decide)
      rw [h.lv.2 _ (by omega)]
    · rfl
  rw [e]
  exact fun I2 h2 e2 e3 => K351_1877 ⟨fun _ => K _ _ _ _ _ _ _ _ (h.q ((ix.r I).u rfl) up_e h2 e2 e3), fun g => absurd rfl g⟩
theorem LC16 {sc : Nat × (Nat → Int32)} {Q : XQ} {x3 : Int32} {cu su : Nat} {S : XS} {I : XI} {J : XJ} {r : XR} {n : Nat} {F : Nat → Int32} {m c : Nat} (h : INV S I J r n F m c) (v : ∀ i, i ≤ 5 → vp_in (x3 + nI i) sc.1) (K : KL sc Q x3 cu su) : xcall 100 16 [.ref 0, .int (sc.2 ((x3 + (nI 1))).toNatClampNeg), .int (sc.2 ((x3 + (nI 2))).toNatClampNeg), .int (sc.2 ((x3 + (nI 3))).toNatClampNeg)] S I J r (fun v S1 I1 J1 r1 => xrun sc (xcall 100) Q 351 316 [.retAddr 3000, .ref 0, .ref 65, .int x3] (v.toList ++ []) S1 I1 J1 r1 cu su) :=
  c16 h.lay h.tc.1 (fun e => K351_316 h.lay ⟨v 1 (by decide), v 2 (by decide), v 3 (by decide), r194 h.lay h.tc.2 (fun _ => K351_335 ⟨fun _ => K _ _ _ _ _ _ _ _ (h.e), fun g => absurd rfl g⟩) (fun e2 => absurd e2 e)⟩)
    (fun e J1 j1 t1 => K351_316 h.lay ⟨v 1 (by decide), v 2 (by decide), v 3 (by decide), r194 h.lay (T := fun t i => J (5 + t) i) (fun t ht i hi => by rw [j1 68 (by decide)]; exact h.tc.2 t ht i hi) (fun e2 => absurd e e2) (fun _ J2 j2 t2 => K351_335 ⟨fun _ => K _ _ _ _ _ _ _ _ (h.t16 e j1 t1 j2 t2), fun g => absurd rfl g⟩)⟩)
theorem LC20 {sc : Nat × (Nat → Int32)} {Q : XQ} {x3 : Int32} {cu su : Nat} {S : XS} {I : XI} {J : XJ} {r : XR} {n : Nat} {F : Nat → Int32} {m c : Nat} (h : INV S I J r n F m c) (v : ∀ i, i ≤ 5 → vp_in (x3 + nI i) sc.1) (K : KL sc Q x3 cu su) : xcall 100 20 [.ref 0, .int (sc.2 ((x3 + (nI 1))).toNatClampNeg), .int (sc.2 ((x3 + (nI 2))).toNatClampNeg), .long ((((sc.2 ((x3 + (nI 3))).toNatClampNeg)).toInt64 <<< (((nI 32)).toInt64 &&& 63)) ||| (((sc.2 ((x3 + (nI 4))).toNatClampNeg)).toInt64 &&& (lN 4294967295)))] S I J r (fun v S1 I1 J1 r1 => xrun sc (xcall 100) Q 351 374 [.retAddr 3000, .ref 0, .ref 65, .int x3] (v.toList ++ []) S1 I1 J1 r1 cu su) :=
  c20 h.lay h.tr h.tc.1 (fun e => K351_374 h.lay ⟨v 1 (by decide), v 2 (by decide), v 3 (by decide), v 4 (by decide), r196 h.lay (J0 := J) (tr_ixj h.tr ((ix.r I).u rfl) (jx.r J)) h.tc.2 (fun _ => K351_408 ⟨fun _ => K _ _ _ _ _ _ _ _ (h.e2), fun g => absurd rfl g⟩) (fun e2 => absurd e2 e)⟩)
    (fun e J1 j1 t1 => K351_374 h.lay ⟨v 1 (by decide), v 2 (by decide), v 3 (by decide), v 4 (by decide), r196 h.lay (J0 := J) (T := fun t i => J (5 + t) i) (tr_ixj h.tr ((ix.r I).u rfl) (jx.r J)) (fun t ht i hi => by rw [j1 68 (by decide)]; exact h.tc.2 t ht i hi) (fun e2 => absurd e e2) (fun _ J2 j2 t2 => K351_408 ⟨fun _ => K _ _ _ _ _ _ _ _ (h.tT j1 t1 j2 t2 (((ix.r _).u rfl).u rfl) rfl up_e), fun g => absurd rfl g⟩)⟩)
theorem LC25 {sc : Nat × (Nat → Int32)} {Q : XQ} {x3 : Int32} {cu su : Nat} {S : XS} {I : XI} {J : XJ} {r : XR} {n : Nat} {F : Nat → Int32} {m c : Nat} (h : INV S I J r n F m c) (v : ∀ i, i ≤ 5 → vp_in (x3 + nI i) sc.1) (K : KL sc Q x3 cu su) : xcall 100 25 [.ref 0, .int (sc.2 ((x3 + (nI 1))).toNatClampNeg), .int (sc.2 ((x3 + (nI 2))).toNatClampNeg)] S I J r (fun v S1 I1 J1 r1 => xrun sc (xcall 100) Q 351 427 [.retAddr 3000, .ref 0, .ref 65, .int x3] (v.toList ++ []) S1 I1 J1 r1 cu su) :=
  c25 h.lay h.tr h.tc.1 (K351_427 h.lay ⟨v 1 (by decide), v 2 (by decide), r200 h.lay (tr_ixj h.tr ((ix.r I).u rfl) (jx.r J)) h.tc.2 (K351_441 ⟨fun _ => K _ _ _ _ _ _ _ _ h.e2, fun g => absurd (lgs _) g⟩)⟩)
theorem LC26 {sc : Nat × (Nat → Int32)} {Q : XQ} {x3 : Int32} {cu su : Nat} {S : XS} {I : XI} {J : XJ} {r : XR} {n : Nat} {F : Nat → Int32} {m c : Nat} (h : INV S I J r n F m c) (v : ∀ i, i ≤ 5 → vp_in (x3 + nI i) sc.1) (K : KL sc Q x3 cu su) : xcall 100 26 [.ref 0, .int (sc.2 ((x3 + (nI 1))).toNatClampNeg), .int (sc.2 ((x3 + (nI 2))).toNatClampNeg), .int (sc.2 ((x3 + (nI 3))).toNatClampNeg), .int (sc.2 ((x3 + (nI 4))).toNatClampNeg), .int (sc.2 ((x3 + (nI 5))).toNatClampNeg)] S I J r (fun v S1 I1 J1 r1 => xrun sc (xcall 100) Q 351 476 [.retAddr 3000, .ref 0, .ref 65, .int x3] (v.toList ++ []) S1 I1 J1 r1 cu su) :=
  c26 h.lay h.tr h.tc.1 (fun e => K351_476 h.lay ⟨v 1 (by decide), v 2 (by decide), v 3 (by decide), v 4 (by decide), v 5 (by decide), r201 h.lay (J0 := J) (tr_ixj h.tr ((ix.r I).u rfl) (jx.r J)) h.tc.2 (fun _ => K351_505 ⟨fun _ => K _ _ _ _ _ _ _ _ (h.e), fun g => absurd rfl g⟩) (fun e2 => absurd e2 e)⟩)
    (fun e J1 j1 t1 => K351_476 h.lay ⟨v 1 (by decide), v 2 (by decide), v 3 (by decide), v 4 (by decide), v 5 (by decide), r201 h.lay (J0 := J) (T := fun t i => J (5 + t) i) (tr_ixj h.tr ((ix.r I).u rfl) (jx.r J)) (fun t ht i hi => by rw [j1 68 (by decide)]; exact h.tc.2 t ht i hi) (fun e2 => absurd e e2) (fun _ J2 j2 t2 => K351_505 ⟨fun _ => K _ _ _ _ _ _ _ _ (h.tT j1 t1 j2 t2 (m2.ix _) rfl up_e), fun g => absurd rfl g⟩)⟩)
theorem LC107 {sc : Nat × (Nat → Int32)} {Q : XQ} {x3 : Int32} {cu su : Nat} {S : XS} {I : XI} {J : XJ} {r : XR} {n : Nat} {F : Nat → Int32} {m c : Nat} (h : INV S I J r n F m c) (v : ∀ i, i ≤ 5 → vp_in (x3 + nI i) sc.1) (K : KL sc Q x3 cu su) : xcall 100 107 [.ref 0, .int (sc.2 ((x3 + (nI 1))).toNatClampNeg)] S I J r (fun v S1 I1 J1 r1 => xrun sc (xcall 100) Q 351 786 [.retAddr 3000, .ref 0, .ref 65, .int x3] (v.toList ++ []) S1 I1 J1 r1 cu su) :=
  c107 h.lay h.cr h.tr h.tc.1 (fun e => K351_786 h.lay ⟨v 1 (by decide), r273 h.lay h.wf (J0 := J) (tr_ixj h.tr ((ix.r I).u rfl) (jx.r J)) h.tc.2 (fun _ => K351_795 ⟨fun _ => K _ _ _ _ _ _ _ _ (h.e), fun g => absurd rfl g⟩) (fun e2 => absurd e2 e)⟩)
    (fun e J1 j1 t1 => K351_786 h.lay ⟨v 1 (by decide), r273 h.lay h.wf (J0 := J) (T := fun t i => J (5 + t) i) (tr_ixj h.tr ((ix.r I).u rfl) (jx.r J)) (fun t ht i hi => by rw [j1 68 (by decide)]; exact h.tc.2 t ht i hi) (fun e2 => absurd e e2) (fun _ I2 J2 h2 e2 e3 j2 t2 => K351_795 ⟨fun _ => K _ _ _ _ _ _ _ _ (h.tT j1 t1 j2 t2 h2 e2 e3), fun g => absurd rfl g⟩)⟩)
theorem LC28 {sc : Nat × (Nat → Int32)} {Q : XQ} {x3 : Int32} {cu su : Nat} {S : XS} {I : XI} {J : XJ} {r : XR} {n : Nat} {F : Nat → Int32} {m c : Nat} (h : INV S I J r n F m c) (v : ∀ i, i ≤ 5 → vp_in (x3 + nI i) sc.1) (K : KL sc Q x3 cu su) : xcall 100 28 [.ref 0, .int (sc.2 ((x3 + (nI 1))).toNatClampNeg), .int (sc.2 ((x3 + (nI 2))).toNatClampNeg), .int (sc.2 ((x3 + (nI 3))).toNatClampNeg), .int (sc.2 ((x3 + (nI 4))).toNatClampNeg), .int (sc.2 ((x3 + (nI 5))).toNatClampNeg)] S I J r (fun v S1 I1 J1 r1 => xrun sc (xcall 100) Q 351 539 [.retAddr 3000, .ref 0, .ref 65, .int x3] (v.toList ++ []) S1 I1 J1 r1 cu su) :=
  c28 h.lay h.tp.1 h.tp.2.2.1 (fun e => K351_539 h.lay ⟨v 1 (by decide), v 2 (by decide), v 3 (by decide), v 4 (by decide), v 5 (by decide), r202 h.lay h.tp.2.1 h.tp.2.2.1 (fun _ => K351_568 ⟨fun _ => K _ _ _ _ _ _ _ _ (h.u1), fun g => absurd rfl g⟩) (fun e2 => absurd e2 (by omega))⟩)
    (fun e I1 f1 t1 => K351_539 h.lay ⟨v 1 (by decide), v 2 (by decide), v 3 (by decide), v 4 (by decide), v 5 (by decide), r202 h.lay (h.tp.2.1.cg (f1 65 8 (by decide) (by decide)) (fun i => f1 69 i (by decide) (by omega))) h.tp.2.2.1 (fun e2 => absurd e2 (by omega)) (fun _ I2 f2 t2 => K351_568 ⟨fun _ => K _ _ _ _ _ _ _ _ (h.fd e f1 t1 f2 t2), fun g => absurd rfl g⟩)⟩)
theorem LC112 {sc : Nat × (Nat → Int32)} {Q : XQ} {x3 : Int32} {cu su : Nat} {S : XS} {I : XI} {J : XJ} {r : XR} {n : Nat} {F : Nat → Int32} {m c : Nat} {b : Int32} (h : INV S I J r n F m c) (v : ∀ i, i ≤ 5 → vp_in (x3 + nI i) sc.1) (K : KL sc Q x3 cu su) (hb : (sc.2 (x3 + nI 2).toNatClampNeg = 0 ∧ b = nI 0) ∨ (sc.2 (x3 + nI 2).toNatClampNeg ≠ 0 ∧ b = nI 1)) : xrun sc (xcall 100) Q 351 875 [.retAddr 3000, .ref 0, .ref 65, .int x3] [.int b, .int (sc.2 (x3 + nI 1).toNatClampNeg), .ref 0] S I J r cu su := by
  have hb2 : b = 0 ∨ b = 1 := by
    rcases hb with ⟨_, q⟩ | ⟨_, q⟩
    · exact Or.inl q
    · exact Or.inr q
  have key : ∀ I1, CR I1 J 28 (a112 (I 70) (sc.2 (x3 + nI 1).toNatClampNeg) b).2.2 (J 72) → ixc I I1 → I1 0 13 = nI (a112 (I 70) (sc.2 (x3 + nI 1).toNatClampNeg) b).1 → xcall 100 279 [.ref 65, .int (sc.2 (x3 + nI 1).toNatClampNeg), .int b] S I1 J r (fun v S1 I1 J1 r1 => xrun sc (xcall 100) Q 351 900 [.retAddr 3000, .ref 0, .ref 65, .int x3] (v.toList ++ [.int (a112 (I 70) (sc.2 (x3 + nI 1).toNatClampNeg) b).2.1]) S1 I1 J1 r1 cu su) := fun I1 c1 h1 e1 =>
    r279 h.lay (by rw [h1.b]; exact h.wf) hb2 (by rw [h1.b]; exact fun I2 b2 h2 e2 e3 => K351_900 ⟨fun _ => K _ _ _ _ _ _ _ _ (h.ab c1 h1 e1 (fun _ _ => rfl) b2 h2 e2 e3 (fun _ _ => rfl) (kp112 h.wf) (fun _ _ => rfl)), fun g => absurd rfl g⟩)
  refine K351_875 h.lay (c112 h.lay h.cr hb2 (fun I1 c1 h1 e1 => K351_878 h.lay ⟨v 1 (by decide), v 2 (by decide), ?_⟩))
  have k := key I1 c1 h1 e1
  rcases hb with ⟨z, q⟩ | ⟨z, q⟩
  · subst q
    exact ⟨fun _ => k, fun g => absurd z g⟩
  · subst q
    exact ⟨fun g => absurd g z, fun _ => k⟩
