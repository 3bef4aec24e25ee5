/-! copyTan -/
def tcp (B : Nat → Int32) (T : Nat → Nat → Int64) (s : Int32) (t n : Nat) : Nat → Nat → Int64 := fun a b => if a = t ∧ b < n then cutv s (B (55 + b)).toInt64 else T a b
theorem tcp_s {B : Nat → Int32} {T : Nat → Nat → Int64} {s : Int32} {t n a b : Nat} : ts (tcp B T s t n) t n (cutv s (B (55 + n)).toInt64) a b = tcp B T s t (n + 1) a b := by
  unfold ts tcp
  by_cases e : a = t
  · by_cases e2 : b = n
    · rw [if_pos ⟨e, e2⟩, if_pos ⟨e, by omega⟩, e2]
    · rw [if_neg (fun q => e2 q.2)]
      by_cases e3 : b < n
      · rw [if_pos ⟨e, e3⟩, if_pos ⟨e, by omega⟩]
      · rw [if_neg (fun q => e3 q.2), if_neg (fun q => by have := q.2; omega)]
  · rw [if_neg (fun q => e q.1), if_neg (fun q => e q.1), if_neg (fun q => e q.1)]
theorem tcp_0 {B : Nat → Int32} {T : Nat → Nat → Int64} {s : Int32} {t a b : Nat} : tcp B T s t 0 a b = T a b := by unfold tcp; rw [if_neg (fun q => Nat.not_lt_zero _ q.2)]
theorem lka_of {I : XI} {t n k : Nat} (ht : t < 4) (h : lkf I (nI t) (nI n) = 0) (hk : k < n) (hn : n ≤ 6) : lka I (nI t) (nI k) = 0 := by
  have := lkf_0 h
  rw [cl_nI (by omega), i_toI (by omega)] at this
  unfold lka
  rw [if_pos (okx_nI ht (by decide)), cl_nI (by omega), if_neg (by omega), i_toI (by omega), if_pos (by omega)]
theorem CR.jc' {I : XI} {J J' : XJ} {B : Nat → Int32} {W : Nat → Int64} (c : CR I J 28 B W) (h : J' 32 = J 32) : CR I J' 28 B W := by
  unfold CR
  rw [show J' (28 + 4) = J (28 + 4) from h]
  exact c
theorem k107 {d : Nat} {Q : XQ} {S : XS} {I : XI} {J : XJ} {r : XR} {cu su t : Nat} {J0 : XJ} {B : Nat → Int32} {W : Nat → Int64} {T : Nat → Nat → Int64} {w2 : Value} (hL : LAY S r) (c : CR I J 28 B W) (tr : TR I J0) (ht : t < 4) (hk : lkf I (nI t) (nI (bn B 3)) = 0)
    (hQ : ∀ J', jc J J' → TC J' (tcp B T (I 66 t) t (bn B 3)) → Q (some (.int (nI (bn B 3)))) S (up2 I 0 13 (nI 0)) J' r) :
    ∀ j i J1 w2, i + j = bn B 3 → jc J J1 → TC J1 (tcp B T (I 66 t) t i) → xrun z0 (xcall (d + 4)) Q 107 28 [.ref 0, .int (nI t), w2, .int (nI i)] [] S I J1 r cu su
  | 0, i, J1, w2, hi, g, e => by
    have e1 : i = bn B 3 := by omega
    subst e1
    refine K107_28 hL (yes ?_ (E83 hL (K107_76 ?_)))
    · rw [c.n7]; exact Int32.le_refl _
    · rw [c.n7]; exact hQ J1 g e
  | j + 1, i, J1, w2, hi, g, e => by
    have hb := c.wf.c.2
    have hl := lka_of ht hk (k := i) (by omega) hb
    refine K107_28 hL (no ?_ ⟨vp_in_nI (by omega) (by decide), ?_⟩)
    · rw [c.n7, nI_leI (by omega) (by omega)]; omega
    rw [nI_clamp (by omega), (c.2.2.2.2 i (by omega)).2.2.2.2.2.1]
    refine c21 hL tr e (fun h => absurd hl h) (fun _ J2 g2 e2 => K107_58 ?_)
    rw [cl_nI (by omega), cl_nI (by omega)] at e2
    rw [nI_add]
    exact k107 (w2 := w2) hL c tr ht hk hQ j (i + 1) J2 _ (by omega) (fun q hq => (g2 q hq).trans (g q hq)) (e2.c (fun a _ b _ => tcp_s.symm))
theorem c107 {d : Nat} {Q : XQ} {S : XS} {I : XI} {J : XJ} {r : XR} {x : Int32} {J0 : XJ} {B : Nat → Int32} {W : Nat → Int64} {T : Nat → Nat → Int64} (hL : LAY S r) (c : CR I J 28 B W) (tr : TR I J0) (hT : TC J T)
    (h0 : lkf I x (B 3) ≠ 0 → Q (some (.int (-1))) S (up2 I 0 13 (nI (lkf I x (B 3)))) J r) (h1 : lkf I x (B 3) = 0 → ∀ J', jc J J' → TC J' (tcp B T (I 66 (cl x)) (cl x) (bn B 3)) → Q (some (.int (nI (bn B 3)))) S (up2 I 0 13 (nI 0)) J' r) : xcall (d + 5) 107 [.ref 0, .int x] S I J r Q := by
  have hl := lkf_le (I := I) (x := x) (n := B 3)
  have e3 : I 28 7 = B 3 := c.2.1.2.2.2.2.1
  refine E107 hL ?_
  rw [e3]
  refine c23 hL tr (K107_15 hL ?_)
  by_cases e : lkf I x (B 3) = 0
  · have h1' := h1 e
    obtain ⟨a1, a2, _, _⟩ := lkf_0 e
    have e' := e
    rw [c.wf.c.1] at e'
    generalize cl x = t at *
    subst a2
    exact yes (by rw [e]; rfl) (k107 (w2 := .null) hL c tr a1 e' h1' (bn B 3) 0 J _ (by omega) (jc.r J) (hT.c (fun a _ b _ => tcp_0)))
  · exact no (st_1 e (by omega)) (E31 hL (K107_25 (h0 e)))
theorem TR.ix {I I' : XI} {J : XJ} (t : TR I J) (h : ix I I') : TR I' J := by
  intro k hk
  rw [h.q 66 (fun _ => rfl), h.q 67 (fun _ => rfl), h.q 9 (fun _ => rfl), h.q 10 (fun _ => rfl)]
  exact t k hk
theorem k273 {d : Nat} {Q : XQ} {S : XS} {I : XI} {J : XJ} {r : XR} {cu su t : Nat} {J0 : XJ} {B : Nat → Int32} {T : Nat → Nat → Int64} (hL : LAY S r) (w : WF B) (tr : TR I J0) (ht : t < 4) (hk : lkf I (nI t) (nI (bn B 3)) = 0) (hB : I 70 = B)
    (hQ : ∀ I' J', ix I I' → I' 0 13 = I 0 13 → I' 65 0 = nI 0 → jf 68 J J' → TM J' (tcp B T (I 66 t) t (bn B 3)) → Q (some (.int (nI (bn B 3)))) S I' J' r) :
    ∀ j i I1 J1, i + j = bn B 3 → ix I I1 → I1 0 13 = I 0 13 → I1 65 0 = nI 0 → jf 68 J J1 → TM J1 (tcp B T (I 66 t) t i) → xrun z0 (xcall (d + 3)) Q 273 62 [.ref 65, .int (nI t), .int (nI i)] [] S I1 J1 r cu su
  | 0, i, I1, J1, hi, x, x1, x2, g, e => by
    have e1 : i = bn B 3 := by omega
    subst e1
    have eb : I1 70 = B := x.b.trans hB
    refine K273_62 hL (yes ?_ ?_)
    · rw [eb, w.c.1]; exact Int32.le_refl _
    · rw [eb, w.c.1]; exact hQ I1 J1 x x1 x2 g e
  | j + 1, i, I1, J1, hi, x, x1, x2, g, e => by
    have hb := w.c.2
    have eb : I1 70 = B := x.b.trans hB
    have hl := lka_of ht hk (k := i) (by omega) hb
    have hl' : lka I1 (nI t) (nI i) = 0 := by unfold lka at hl ⊢; rw [x.q 67 (fun _ => rfl)]; exact hl
    refine K273_62 hL (no ?_ ?_)
    · rw [eb, w.c.1, nI_leI (by omega) (by omega)]; omega
    rw [nI_add, nI_clamp (by omega), eb]
    refine ⟨vp_in_nI (by omega) (by decide), r196 hL (tr.ix x) e (fun h => absurd hl' h) (fun _ J2 g2 e2 => K273_88 ?_)⟩
    rw [cl_nI (by omega), cl_nI (by omega), x.q 66 (fun _ => rfl)] at e2
    rw [nI_add]
    exact k273 hL w tr ht hk hB hQ j (i + 1) _ J2 (by omega) ((x.u rfl).u rfl) x1 up_e (fun q hq => (g2 q hq).trans (g q hq)) (e2.c (fun a _ b _ => tcp_s.symm))
theorem r273 {d : Nat} {Q : XQ} {S : XS} {I : XI} {J : XJ} {r : XR} {x : Int32} {J0 : XJ} {T : Nat → Nat → Int64} (hL : LAY S r) (w : WF (I 70)) (tr : TR I J0) (hT : TM J T)
    (h0 : lkf I x (I 70 3) ≠ 0 → Q (some (.int (-1))) S (up2 (m2 I) 65 0 (nI (lkf I x (I 70 3)))) J r)
    (h1 : lkf I x (I 70 3) = 0 → ∀ I' J', ix I I' → I' 0 13 = I 0 13 → I' 65 0 = nI 0 → jf 68 J J' → TM J' (tcp (I 70) T (I 66 (cl x)) (cl x) (bn (I 70) 3)) → Q (some (.int (nI (bn (I 70) 3)))) S I' J' r) : xcall (d + 4) 273 [.ref 65, .int x] S I J r Q := by
  have b33 : ∀ s, lkf I x (I 70 3) = s → s ≠ 0 → Q (some (.int (-1))) S (up2 (m2 I) 65 0 (nI s)) J r := fun s e h => by subst e; exact h0 h
  refine E273 hL (r274 (fun q1 q2 => K273_15 hL (yes (by decide) ?_)) (fun h => K273_15 hL (nno rfl (E261 hL (K273_23 (b33 1 (by unfold lkf; rw [if_neg (by exact h)]) (by decide)))))))
  have hx : okx x 4 := ⟨q1, q2⟩
  obtain ⟨k1, k2⟩ := okx_cl hx
  have v1 : vp_in x 4 := by rw [k2]; exact vp_in_nI (by omega) (by decide)
  have st : lkf I x (I 70 3) = if (I 67 (cl x)).toInt < 0 then 3 else if (I 70 3).toInt ≤ (I 67 (cl x)).toInt then 0 else 4 := by unfold lkf; rw [if_pos hx]
  refine ⟨v1, fun p => ⟨v1, fun p2 => ?_, fun p2 => ?_⟩, fun p => ?_⟩
  · have p' : (0 : Int32) ≤ I 67 (cl x) := p
    have p2' : I 70 3 ≤ I 67 (cl x) := p2
    rw [i_le, i_z] at p'
    rw [i_le] at p2'
    have e : lkf I x (I 70 3) = 0 := by rw [st, if_neg (by omega), if_pos p2']
    have h1' := h1 e
    have e' := e
    rw [w.c.1] at e'
    generalize cl x = t at *
    subst k2
    exact k273 (d := d) (I := m2 I) (J := J) (T := T) hL w (tr.ix (m2.ix I)) k1 e' rfl (fun I' J' x1 x2 x3 g e2 => h1' I' J' ((m2.ix I).t x1) x2 x3 g e2) (bn (I 70) 3) 0 (m2 I) J (by omega) (ix.r _) rfl rfl (fun _ _ => rfl) (hT.c (fun a _ b _ => tcp_0))
  · have p' : (0 : Int32) ≤ I 67 (cl x) := p
    have p2' : ¬ I 70 3 ≤ I 67 (cl x) := p2
    rw [i_le, i_z] at p'
    rw [i_le] at p2'
    exact E261 hL (K273_59 (b33 4 (by rw [st, if_neg (by omega), if_neg p2']) (by decide)))
  · have p' : ¬ (0 : Int32) ≤ I 67 (cl x) := p
    rw [i_le, i_z] at p'
    exact E261 hL (K273_38 (b33 3 (by rw [st, if_pos (by omega)]) (by decide)))
