/-! the years' text: the reference's rows -/
def kmw (w : Nat) (I I' : XI) : Prop := (∀ x i, x ≠ 65 → x ≠ 70 → I' x i = I x i) ∧ (∀ i, i ≤ w → I' 70 i = I 70 i) ∧ ∀ i, ¬ (12 ≤ i ∧ i ≤ 18) → I' 65 i = I 65 i
theorem kmw.r (w : Nat) (I : XI) : kmw w I I := ⟨fun _ _ _ _ => rfl, fun _ _ => rfl, fun _ _ => rfl⟩
theorem kmw.t {w : Nat} {I I' I2 : XI} (h : kmw w I I') (h2 : kmw w I' I2) : kmw w I I2 := ⟨fun x i a b => (h2.1 x i a b).trans (h.1 x i a b), fun i a => (h2.2.1 i a).trans (h.2.1 i a), fun i a => (h2.2.2 i a).trans (h.2.2 i a)⟩
theorem mk.w {w : Nat} {I I' : XI} (h : mk I I') : kmw w I I' := ⟨fun x i a b => h x i (by omega), fun i a => h 70 i (by omega), fun i a => h 65 i (by omega)⟩
theorem kmw.u {w : Nat} {I I' : XI} {i : Nat} {v : Int32} (h : kmw w I I') (hi : w < i) : kmw w I (up2 I' 70 i v) := ⟨fun x k a b => by rw [up_o b]; exact h.1 x k a b, fun k a => by rw [up_i (by omega)]; exact h.2.1 k a, fun k a => by rw [up_o (by decide)]; exact h.2.2 k a⟩
theorem kmw.fmk {w : Nat} {I I' : XI} {k s : Nat} (h : kmw w I I') : kmw w I (fm I' k s) := ⟨fun x i a b => by unfold fm; rw [up_o a, up_o a]; exact h.1 x i a b, fun i a => by unfold fm; rw [up_o (by decide), up_o (by decide)]; exact h.2.1 i a, fun i a => by unfold fm; rw [up_i (by omega), up_i (by omega)]; exact h.2.2 i a⟩
def rk9 (k : Nat) : Nat := if k ≤ 8 then k - 1 else if k = 9 then 10 else if k = 10 then 9 else 8
/-- a step's words: at w, of the line y, whose kind is k -/
def RZ (f : Nat → Int32) (w k : Nat) (y : Nat → Int32) : Prop := f w = nI (rk9 k) ∧ (k = 1 ∨ (3 ≤ k ∧ k ≤ 7) ∨ 12 ≤ k → f (w + 1) = y 1) ∧ (k = 2 ∨ k = 10 → f (w + 1) = y 2) ∧ (k = 1 ∨ k = 5 ∨ k = 7 ∨ k = 12 → f (w + 2) = y 2) ∧ (k = 7 → f (w + 3) = y 3 ∧ f (w + 4) = y 4) ∧ (12 ≤ k → f (w + 5) = nI (k - 12)) ∧ (k = 13 → f (w + 6) = y 2 ∧ f (w + 7) = y 3)
def RW (f : Nat → Int32) (w : Nat) (y : Nat → Int32) : Prop := ∃ k, 1 ≤ k ∧ k ≤ 14 ∧ k ≠ 11 ∧ y 0 = nI k ∧ RZ f w k y
def RQY (Q : XQ) (S : XS) (I : XI) (J : XJ) (r : XR) (n : Nat) (F : Nat → Int32) (w : Nat) : YO → Prop
  | .error e => ∀ I' J', kmw w I I' → jk 65 19 J J' → bd I' e.1 e.2 → 0 < e.1 → e.1 < 100 → Q none S I' J' r
  | .ok (s', y') => ∀ I' J', kmw w I I' → jk 65 19 J J' → RM I' J' n F s' → GM I' → RW (I' 70) w y' → Q none S I' J' r
theorem RQY.x {Q : XQ} {S : XS} {I I1 : XI} {J J1 : XJ} {r : XR} {n w : Nat} {F : Nat → Int32} {o : YO} (h : RQY Q S I J r n F w o) (k : kmw w I I1) (j : jk 65 19 J J1) : RQY Q S I1 J1 r n F w o := by
  cases o with
  | error e => exact fun I' J' f1 f2 => h I' J' (k.t f1) (j.t f2)
  | ok o =>
    obtain ⟨s', y'⟩ := o
    exact fun I' J' f1 f2 => h I' J' (k.t f1) (j.t f2)
theorem GM.u {I : XI} {i : Nat} {v : Int32} (h : GM I) : GM (up2 I 70 i v) := by unfold GM; rw [up_o (by decide)]; exact h
theorem BM.u {I : XI} {i : Nat} {v : Int32} (h : BM I) : BM (up2 I 70 i v) := by unfold BM; rw [up_o (by decide)]; exact h
theorem r259c {d : Nat} {Q : XQ} {S : XS} {I : XI} {J : XJ} {r : XR} {B : Nat → Int32} (hL : LAY S r) (w : WF B) (hc : ∀ i, i < 1380 → I 70 i = B i) (hQ : Q (some (.int (nI (ce B)))) S I J r) : xcall (d + 1) 259 [.ref 65] S I J r Q := by
  refine E259 hL ?_
  rw [hc 0 (by decide), hc 1 (by decide), w.w.1, w.h.1, pk_mul]
  exact hQ
theorem am_b {F : Nat → Int32} {n s : Nat} : 0 < am F n s ∧ am F n s < 100 := am_le
/-- whose: nobody in a bad text -/
theorem r258b {d : Nat} {Q : XQ} {S : XS} {I : XI} {J : XJ} {r : XR} (hL : LAY S r) (g : BM I) (hQ : Q (some (.int (nI 0))) S I J r) : xcall (d + 1) 258 [.ref 65] S I J r Q := E258 hL (yes g.ne (K258_18 hL (no g.nle hQ)))
theorem r258 {d : Nat} {Q : XQ} {S : XS} {I : XI} {J : XJ} {r : XR} {n s : Nat} {F B : Nat → Int32} {W : Nat → Int64} {K : Nat → Nat → YO} (hL : LAY S r) (hn : n ≤ 900) (hs : s ≤ n) (w : WF B) (h : RM I J n F s) (g : GM I) (hc : ∀ i, i < 1380 → I 70 i = B i) (hw : ∀ k, k < bn B 3 → J 72 k = W k)
    (hE : ∀ c x, qCou F n s (bn B 3) W K = .error (c, s) → 0 < c → c < 100 → Q (some (.int x)) S (fm I c s) J r)
    (hT : ∀ k I' J', k < bn B 3 → qCou F n s (bn B 3) W K = K k (nxt F n s) → mk I I' → jk 65 19 J J' → RM I' J' n F (nxt F n s) → GM I' → Q (some (.int (nI k))) S I' J' r) : xcall (d + 7) 258 [.ref 65] S I J r Q := by
  have hb3 := w.c.2
  refine E258 hL (nno g (r234 (d := d) hL hs hn h (K258_11 hL ?_)))
  cases en : isN F n s
  · have b := fm_b (I := I) (s := s) (am_le (F := F) (n := n) (s := s)).1 am_le.2
    exact nno rfl (r220 (d := d + 4) hL h g (K258_18 hL (no b.nle (hE _ _ (qCou_1 en) am_le.1 am_le.2))))
  have ek := (isN_t.mp en).1
  have ew : J 65 19 = lN (wc F n s) := by
    rw [(h.2.2.2.2.1 ek).1]
    have h8 := (isN_t.mp en).2.1
    have hwc := wc_0 ek
    have hn8 : ¬ 8 < ex F n s - s := fun q => h8 (hwc.mpr q)
    unfold wJ wc
    rw [if_neg hn8, if_neg hn8]
  have h33 : I 70 (345 * 0 + 3) = nI (bn B 3) := (hc 3 (by decide)).trans w.c.1
  refine yes (by decide) (K258_18 hL (yes g.le (r245 (d := d + 5) (b := 0) hL (by decide) hb3 h33 (K258_32 hL ?_))))
  have ecg : nmf (fun q => J 72 (6 * 0 + q)) (J 65 19) (bn B 3) 0 = nmf W (lN (wc F n s)) (bn B 3) 0 := by
    rw [ew]
    exact nmf_cg (bn B 3) 0 (fun q _ hq => by rw [Nat.mul_zero, Nat.zero_add]; exact hw q (by omega))
  rw [ecg]
  cases e2 : nmf W (lN (wc F n s)) (bn B 3) 0 with
  | none =>
    have b := fm_b (I := I) (k := 3) (s := s) (by decide) (by decide)
    rw [h.2.1]
    have er : ∀ x, Q (some (.int x)) S (fm I 3 s) J r := fun x => hE 3 x (qCou_3 en e2) (by decide) (by decide)
    exact no (by decide) (r217 (d := d + 5) hL g (K258_46 hL (r222b (d := d + 5) hL b (K258_51 (E35 ⟨fun _ => K258_56 (er _), fun _ => K258_56 (er _)⟩)))))
  | some k =>
    have := nmf_lt _ _ e2
    refine yes (nI_pos' (by omega)) (K258_46 hL (r222t (d := d + 3) hL hn hs h g (fun I' J' f1 f2 f3 => K258_51 (c35 (a := 0) (d := d + 5) (by decide) (by omega) (K258_56 ?_)))))
    rw [Nat.max_eq_right (Nat.zero_le k)]
    exact hT k I' J' (by omega) (qCou_o en e2) f1 f2 f3 (g.k f1)
/-- a sign -/
theorem r251x {d : Nat} {Q : XQ} {S : XS} {I : XI} {J : XJ} {r : XR} {n s x : Nat} {F : Nat → Int32} (hL : LAY S r) (h : RM I J n F s) (hQ : Q (some (.int (b01 (decide (kd F n s = 3 ∧ F s = nI x))))) S I J r) : xcall (d + 1) 251 [.ref 65, .int (nI x)] S I J r Q := by
  refine E251 hL ?_
  rw [h.2.2.2.1, nI_eqI (by have := kd_le (F := F) (n := n) (s := s); omega) (by decide)]
  by_cases q : kd F n s = 3
  · refine nno q ?_
    rw [h.2.2.2.2.2.2 q]
    by_cases q2 : F s = nI x
    · rw [b01_t (decide_eq_true ⟨q, q2⟩)] at hQ; exact nno q2 hQ
    · rw [b01_f (decide_eq_false (fun h => q2 h.2))] at hQ; exact yes q2 hQ
  · rw [b01_f (decide_eq_false (fun h => q h.1))] at hQ; exact yes q hQ
theorem kd_3 {F : Nat → Int32} {n s : Nat} (h : kd F n s = 3) : F s = nI 59 ∨ F s = nI 60 ∨ F s = nI 62 ∨ F s = nI 61 := by
  unfold kd at h
  split at h
  · cases h
  · split at h
    · cases h
    · split at h
      · split at h <;> cases h
      · split at h
        · rename_i q
          have q := isS_t.mp q
          unfold bv at q
          rcases q with q | q | q | q
          · exact Or.inl (Int32.toInt_inj.mp q)
          · exact Or.inr (Or.inl (Int32.toInt_inj.mp q))
          · exact Or.inr (Or.inr (Or.inl (Int32.toInt_inj.mp q)))
          · exact Or.inr (Or.inr (Or.inr (Int32.toInt_inj.mp q)))
        · cases h
/-- the comparing sign's three looks -/
theorem k257c {d : Nat} {Q : XQ} {S : XS} {I : XI} {J : XJ} {r : XR} {n s cu su : Nat} {x1 : Int32} {w2 : Value} {F : Nat → Int32} (hL : LAY S r) (hn : n ≤ 900) (hs : s ≤ n) (h : RM I J n F s) (g : GM I)
    (hT : kd F n s = 3 → F s ≠ nI 59 → ∀ I' J', mk I I' → jk 65 19 J J' → RM I' J' n F (nxt F n s) → xrun z0 (xcall (d + 4)) Q 257 144 [.ref 65, .int x1, w2] [] S I' J' r cu su)
    (hF : ¬ (kd F n s = 3 ∧ F s ≠ nI 59) → xrun z0 (xcall (d + 4)) Q 257 144 [.ref 65, .int x1, w2] [] S (fm I (am F n s) s) J r cu su) : xcall (d + 4) 251 [.ref 65, .int (nI 60)] S I J r (fun v S1 I1 J1 r1 => xrun z0 (xcall (d + 4)) Q 257 115 [.ref 65, .int x1, w2] (v.toList ++ [.ref 65]) S1 I1 J1 r1 cu su) := by
  have T : kd F n s = 3 → F s ≠ nI 59 → xcall (d + 4) 222 [.ref 65, .int (nI 1)] S I J r (fun v S1 I1 J1 r1 => xrun z0 (xcall (d + 4)) Q 257 144 [.ref 65, .int x1, w2] (v.toList ++ []) S1 I1 J1 r1 cu su) := fun a b => r222t (d := d + 1) hL hn hs h g (fun I' J' f1 f2 f3 => hT a b I' J' f1 f2 f3)
  refine r251x (d := d + 3) hL h (K257_115 hL ?_)
  cases e60 : decide (kd F n s = 3 ∧ F s = nI 60)
  case true =>
    have e := of_decide_eq_true e60
    exact yes (by decide) (T e.1 (by rw [e.2]; decide))
  refine nno rfl (r251x (d := d + 3) hL h (K257_124 hL ?_))
  cases e62 : decide (kd F n s = 3 ∧ F s = nI 62)
  case true =>
    have e := of_decide_eq_true e62
    exact yes (by decide) (T e.1 (by rw [e.2]; decide))
  refine nno rfl (r251x (d := d + 3) hL h (K257_133 hL ?_))
  cases e61 : decide (kd F n s = 3 ∧ F s = nI 61)
  case true =>
    have e := of_decide_eq_true e61
    exact no (by decide) (T e.1 (by rw [e.2]; decide))
  refine yes rfl (r222f (d := d + 1) hL h g (hF (fun e => ?_)))
  have n60 := of_decide_eq_false e60
  have n62 := of_decide_eq_false e62
  have n61 := of_decide_eq_false e61
  rcases kd_3 e.1 with q | q | q | q
  · exact e.2 q
  · exact n60 ⟨e.1, q⟩
  · exact n62 ⟨e.1, q⟩
  · exact n61 ⟨e.1, q⟩
