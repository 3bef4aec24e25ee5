def QJ (Q : XQ) (S : XS) (I : XI) (J : XJ) (r : XR) (s : Nat) (v : Int32) : Prop := ∀ I' J', ix I I' → I' 0 13 = nI s → (∀ q, q ≠ 50 → J' q = J q) → Q (some (.int v)) S I' J' r
theorem QJ.e {Q : XQ} {S : XS} {I I1 : XI} {J J1 : XJ} {r : XR} {s : Nat} {v : Int32} (h : QJ Q S I J r s v) (h2 : ix I I1) (h3 : ∀ q, q ≠ 50 → J1 q = J q) : Q (some (.int v)) S (up2 I1 0 13 (nI s)) J1 r := h _ _ (h2.u rfl) up_e h3
theorem CP.ix {I I' : XI} {J J' : XJ} {b : Nat} (h : CP I J I' J' 46 b) : ix I I' := ix.of (P := fun q => 46 ≤ q ∧ q ≤ 63) (fun q hq => h.1 q (by omega)) (fun q hq i => by
  have : q = 46 ∨ q = 47 ∨ q = 48 ∨ q = 49 ∨ q = 50 ∨ q = 51 ∨ q = 52 ∨ q = 53 ∨ q = 54 ∨ q = 55 ∨ q = 56 ∨ q = 57 ∨ q = 58 ∨ q = 59 ∨ q = 60 ∨ q = 61 ∨ q = 62 ∨ q = 63 := by omega
  rcases this with rfl | rfl | rfl | rfl | rfl | rfl | rfl | rfl | rfl | rfl | rfl | rfl | rfl | rfl | rfl | rfl | rfl | rfl <;> rfl)
def q161 (B : Nat → Int32) (x : Int32) : Nat × Int32 := if okr x 0 4 then (0, nI (gv (cl x) true B)) else (5, -1)
theorem c161 {d : Nat} {Q : XQ} {S : XS} {I : XI} {J : XJ} {r : XR} {x : Int32} {B : Nat → Int32} {W : Nat → Int64} (hL : LAY S r) (c : CR I J 28 B W) (h01 : I 39 0 = 0 ∨ I 39 0 = 1) (hQ : QJ Q S I J r (q161 B x).1 (q161 B x).2) : xcall (d + 20) 161 [.ref 0, .int x] S I J r Q := by
  have z4 : (nI 4).toInt = 4 := rfl
  have z0' : (nI 0).toInt = 0 := rfl
  unfold q161 at hQ
  refine E161 (c101 (fun h1 h2 => K161_6 hL (yes (by decide) ?_)) (fun h => K161_6 hL (nno rfl ?_)))
  · have hx : okr x 0 4 := ⟨by omega, by omega⟩
    rw [if_pos hx] at hQ
    obtain ⟨p1, p2, p3⟩ := okr_cl (lo := 0) (hi := 4) hx (by decide)
    generalize cl x = t at *
    subst p3
    refine c80 (lay0_46 hL) (lay0_28 hL) (by decide) h01 (fun I' J' h => K161_26 hL ?_)
    exact xcall_imp (by omega) (c162 (lay0_46 hL) t true (d + 1) I' B (by omega) (h.cr c) _ (K161_36 hL (E83 hL (K161_39 (hQ.e h.ix h.2.1))))) (fun _ _ _ _ _ h => h)
  · rw [if_neg (by exact h)] at hQ
    exact E31 hL (K161_14 (hQ.e (ix.r I) (fun _ _ => rfl)))
/-- no better -/
def wor (s : Bool) (v b : Nat) : Bool := if s = true then decide (v ≤ b) else decide (b ≤ v)
theorem wor_t {v b : Nat} : wor true v b = true ↔ v ≤ b := decide_eq_true_iff
theorem wor_f {v b : Nat} : wor false v b = true ↔ b ≤ v := decide_eq_true_iff
/-- the first of the best, by what was looked at -/
def rb (s : Bool) (f : Nat → Option Nat) : Nat → Nat × Option Nat
  | 0 => (0, none)
  | n + 1 => match f n with
    | none => rb s f n
    | some v => match (rb s f n).2 with
      | none => (v, some n)
      | some _ => if wor s v (rb s f n).1 = true then rb s f n else (v, some n)
theorem rb_no {s : Bool} {f : Nat → Option Nat} {n : Nat} (h : f n = none) : rb s f (n + 1) = rb s f n := by rw [rb, h]
theorem rb_new {s : Bool} {f : Nat → Option Nat} {n v : Nat} (h : f n = some v) (h2 : (rb s f n).2 = none) : rb s f (n + 1) = (v, some n) := by rw [rb, h]; dsimp only; rw [h2]
theorem rb_old {s : Bool} {f : Nat → Option Nat} {n v w : Nat} (h : f n = some v) (h2 : (rb s f n).2 = some w) : rb s f (n + 1) = if wor s v (rb s f n).1 = true then rb s f n else (v, some n) := by rw [rb, h]; dsimp only; rw [h2]
theorem rb_w {s : Bool} {f : Nat → Option Nat} : ∀ n, (∀ w, (rb s f n).2 = some w → w < n)
  | 0, w, h => by cases h
  | n + 1, w, h => by
    have ih := rb_w (s := s) (f := f) n
    cases hv : f n with
    | none => rw [rb_no hv] at h; have := ih w h; omega
    | some v =>
      cases h2 : (rb s f n).2 with
      | none => rw [rb_new hv h2] at h; cases h; omega
      | some w' =>
        rw [rb_old hv h2] at h
        by_cases q : wor s v (rb s f n).1 = true
        · rw [if_pos q] at h; have := ih w h; omega
        · rw [if_neg q] at h; cases h; omega
theorem rb_le {s : Bool} {f : Nat → Option Nat} {N : Nat} : ∀ n, (∀ k v, k < n → f k = some v → v ≤ N) → (rb s f n).1 ≤ N
  | 0, _ => Nat.zero_le _
  | n + 1, h => by
    have ih := rb_le (s := s) (f := f) n (fun k v hk hv => h k v (by omega) hv)
    cases hv : f n with
    | none => rw [rb_no hv]; exact ih
    | some v =>
      have := h n v (by omega) hv
      cases h2 : (rb s f n).2 with
      | none => rw [rb_new hv h2]; exact this
      | some w' =>
        rw [rb_old hv h2]
        by_cases q : wor s v (rb s f n).1 = true
        · rw [if_pos q]; exact ih
        · rw [if_neg q]; exact this
theorem gb_rb {s : Bool} {f : Nat → Option Nat} {v0 : Nat} : ∀ n, ((rb s f n).2 = none → gb s f v0 n = v0) ∧ (∀ w, (rb s f n).2 = some w → gb s f v0 n = if s = true then max v0 (rb s f n).1 else min v0 (rb s f n).1)
  | 0 => ⟨fun _ => rfl, fun w h => by cases h⟩
  | n + 1 => by
    have ih := gb_rb (s := s) (f := f) (v0 := v0) n
    cases hv : f n with
    | none => rw [rb_no hv, gb, hv]; exact ih
    | some v =>
      rw [gb, hv]
      show ((rb s f (n + 1)).2 = none → (if s = true then max (gb s f v0 n) v else min (gb s f v0 n) v) = v0) ∧ (∀ w, (rb s f (n + 1)).2 = some w → (if s = true then max (gb s f v0 n) v else min (gb s f v0 n) v) = if s = true then max v0 (rb s f (n + 1)).1 else min v0 (rb s f (n + 1)).1)
      cases h2 : (rb s f n).2 with
      | none =>
        rw [rb_new hv h2, ih.1 h2]
        exact ⟨fun q => (by cases q), fun w _ => rfl⟩
      | some w =>
        rw [rb_old hv h2, ih.2 w h2]
        by_cases q : wor s v (rb s f n).1 = true
        · rw [if_pos q]
          refine ⟨fun q2 => (by rw [h2] at q2; cases q2), fun w' _ => ?_⟩
          cases s
          · rw [wor_f] at q
            show min (min v0 (rb false f n).1) v = min v0 (rb false f n).1
            omega
          · rw [wor_t] at q
            show max (max v0 (rb true f n).1) v = max v0 (rb true f n).1
            omega
        · rw [if_neg q]
          refine ⟨fun q2 => (by cases q2), fun w' _ => ?_⟩
          cases s
          · rw [wor_f] at q
            show min (min v0 (rb false f n).1) v = min v0 v
            omega
          · rw [wor_t] at q
            show max (max v0 (rb true f n).1) v = max v0 v
            omega
/-- MOVE: with t + 1 turns -/
def mvo (B : Nat → Int32) (t : Nat) : Option Nat := match (rb true (gk t true B) (bn B 3)).2 with
  | none => none
  | some w => if gv t false B ≤ (rb true (gk t true B) (bn B 3)).1 then some w else none
def q165 (B : Nat → Int32) (x : Int32) : Nat × Int32 := if okr x 1 4 then (match mvo B (cl x - 1) with
  | none => (8, -1)
  | some w => (0, nI w)) else (5, -1)
theorem k165 {d : Nat} {Q : XQ} {S : XS} {I : XI} {J : XJ} {r : XR} {cu su t : Nat} {B : Nat → Int32} {W : Nat → Int64} (hL : LAY S r) (c : CR I J 46 B W) (ht : t < 4)
    (h8 : mvo B t = none → Q (some (.int (-1))) S (up2 I 0 13 (nI 8)) J r) (h0 : ∀ w, mvo B t = some w → Q (some (.int (nI w))) S (up2 I 0 13 (nI 0)) J r) :
    ∀ j i w5, i + j = bn B 3 → xrun z0 (xcall (d + 16)) Q 165 33 [.ref 0, .int (nI (t + 1)), .int (gI (rb true (gk t true B) i).2), .int (match (rb true (gk t true B) i).2 with | none => -1 | some _ => nI (rb true (gk t true B) i).1), .int (nI i), w5] [] S I J r cu su
  | 0, i, w5, hi => by
    have hb := c.wf.c.2
    have e : i = bn B 3 := by omega
    subst e
    have l1 := rb_le (s := true) (f := gk t true B) (N := 15) (bn B 3) (fun k v hk hv => gk_le c.wf hk hv)
    have l2 := gv_le t false B c.wf
    have l3 := rb_w (s := true) (f := gk t true B) (bn B 3)
    unfold mvo at h8 h0
    refine K165_33 hL (yes (by rw [c.n7]; exact Int32.le_refl _) ?_)
    rw [pk_sub (by omega), Nat.add_sub_cancel]
    refine xcall_imp (by omega) (c162 (lay0_46 hL) t false d I B (by omega) c _ (K165_87 hL (w1 := .int (nI (t + 1))) (w4 := .int (nI (bn B 3))) (w5 := w5) (cu := cu) (su := su) ?_)) (fun _ _ _ _ _ h => h)
    cases h2 : (rb true (gk t true B) (bn B 3)).2 with
    | none =>
      rw [h2] at h8
      refine no ?_ (xcall_imp (Nat.le_refl _) (E31 (d := d + 15) hL (K165_101 (K165_109 (h8 rfl)))) (fun _ _ _ _ _ h => h))
      rw [i_le, i_toI (by omega), i_m1]; omega
    | some w =>
      rw [h2] at h8 h0
      dsimp only at h8 h0
      have := l3 w h2
      by_cases q : gv t false B ≤ (rb true (gk t true B) (bn B 3)).1
      · rw [if_pos q] at h0
        exact yes (by rw [nI_leI (by omega) (by omega)]; exact q) (E83 hL (K165_109 (h0 w rfl)))
      · rw [if_neg q] at h8
        exact no (by rw [nI_leI (by omega) (by omega)]; exact q) (E31 hL (K165_101 (K165_109 (h8 rfl))))
  | j + 1, i, w5, hi => by
    have hb := c.wf.c.2
    have ih := fun w5 => k165 (d := d) (cu := cu) (su := su) hL c ht h8 h0 j (i + 1) w5 (by omega)
    have l1 := rb_le (s := true) (f := gk t true B) (N := 15) i (fun k v hk hv => gk_le c.wf (by omega) hv)
    refine K165_33 hL (no (by rw [c.n7, nI_leI (by omega) (by omega)]; omega) ?_)
    refine xcall_imp (by omega) (c164 (d := d + 12) (s := true) (lay0_46 hL) c (by omega) (by omega) (fun I B c Q' h => xcall_imp (by omega) (c162 (lay0_46 hL) t false d I B (by omega) c Q' h) (fun _ _ _ _ _ h => h)) (K165_56 (cu := cu) (su := su) (w5 := w5) ?_)) (fun _ _ _ _ _ h => h)
    cases hv : gk t true B i with
    | none =>
      rw [rb_no hv] at ih
      refine yes ?_ (by rw [nI_add]; exact ih _)
      cases h2 : (rb true (gk t true B) i).2 with
      | none => exact Int32.le_refl _
      | some w => show (-1 : Int32) ≤ nI _; rw [i_le, i_toI (by omega), i_m1]; omega
    | some v =>
      have l2 := gk_le c.wf (by omega) hv
      cases h2 : (rb true (gk t true B) i).2 with
      | none =>
        rw [rb_new hv h2] at ih
        refine no ?_ (by rw [nI_add]; exact ih _)
        show ¬ nI v ≤ (-1 : Int32)
        rw [i_le, i_toI (by omega), i_m1]; omega
      | some w =>
        rw [rb_old hv h2] at ih
        show (nI v ≤ nI (rb true (gk t true B) i).1 → xrun z0 (xcall (d + 16)) Q 165 33 [.ref 0, .int (nI (t + 1)), .int (nI w), .int (nI (rb true (gk t true B) i).1), .int (nI i + nI 1), .int (nI v)] [] S I J r cu su) ∧ (¬ nI v ≤ nI (rb true (gk t true B) i).1 → xrun z0 (xcall (d + 16)) Q 165 33 [.ref 0, .int (nI (t + 1)), .int (nI i), .int (nI v), .int (nI i + nI 1), .int (nI v)] [] S I J r cu su)
        rw [nI_leI (by omega) (by omega), nI_add]
        by_cases q : v ≤ (rb true (gk t true B) i).1
        · rw [if_pos (wor_t.mpr q), h2] at ih
          exact yes q (ih _)
        · rw [if_neg (fun h => q (wor_t.mp h))] at ih
          exact no q (ih _)
theorem c165 {d : Nat} {Q : XQ} {S : XS} {I : XI} {J : XJ} {r : XR} {x : Int32} {B : Nat → Int32} {W : Nat → Int64} (hL : LAY S r) (c : CR I J 28 B W) (h01 : I 39 0 = 0 ∨ I 39 0 = 1) (hQ : QJ Q S I J r (q165 B x).1 (q165 B x).2) : xcall (d + 20) 165 [.ref 0, .int x] S I J r Q := by
  have z4 : (nI 4).toInt = 4 := rfl
  have z1 : (nI 1).toInt = 1 := rfl
  unfold q165 at hQ
  refine E165 (c101 (fun h1 h2 => K165_6 hL (yes (by decide) ?_)) (fun h => K165_6 hL (nno rfl ?_)))
  · have hx : okr x 1 4 := ⟨by omega, by omega⟩
    rw [if_pos hx] at hQ
    obtain ⟨p1, p2, p3⟩ := okr_cl (lo := 1) (hi := 4) hx (by decide)
    generalize cl x = t' at *
    obtain ⟨t, rfl⟩ : ∃ t, t' = t + 1 := ⟨t' - 1, by omega⟩
    subst p3
    rw [Nat.add_sub_cancel] at hQ
    refine c80 (lay0_46 hL) (lay0_28 hL) (by decide) h01 (fun I' J' h => K165_26 ?_)
    refine k165 (d := d + 3) hL (h.cr c) (by omega) (fun e => ?_) (fun w e => ?_) (bn B 3) 0 _ (by omega)
    · rw [e] at hQ
      exact hQ.e h.ix h.2.1
    · rw [e] at hQ
      exact hQ.e h.ix h.2.1
  · rw [if_neg (by exact h)] at hQ
    exact E31 hL (K165_14 (hQ.e (ix.r I) (fun _ _ => rfl)))
