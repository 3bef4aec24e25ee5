/-! games -/
def can (B : Nat → Int32) (k : Nat) (s : Bool) : Bool := decide (B (61 + k) ≠ 1 ∧ bn B (55 + k) ≠ (if s = true then 9 else 0))
def mvt (B : Nat → Int32) (k : Nat) (s : Bool) : Nat := if s = true then bn B (55 + k) + 1 else bn B (55 + k) - 2
def mvB (B : Nat → Int32) (k : Nat) (s : Bool) : Nat → Int32 := ub B (55 + k) (nI (mvt B k s))
def gb (s : Bool) (f : Nat → Option Nat) (v0 : Nat) : Nat → Nat
  | 0 => v0
  | n + 1 => match f n with
    | none => gb s f v0 n
    | some v => if s = true then max (gb s f v0 n) v else min (gb s f v0 n) v
def gend (B : Nat → Int32) : Nat := ctN (orN (shown B) (bn B 3) &&& rset B) 30
def gv : Nat → Bool → (Nat → Int32) → Nat
  | 0, _, B => gend B
  | t + 1, s, B => gb s (fun k => if can B k s = true then some (gv t (!s) (mvB B k s)) else none) (gv t (!s) B) (bn B 3)
/-- the end behind a move with k, with t turns left behind it -/
def gk (t : Nat) (s : Bool) (B : Nat → Int32) (k : Nat) : Option Nat := if can B k s = true then some (gv t (!s) (mvB B k s)) else none
theorem gv_s {t : Nat} {s : Bool} {B : Nat → Int32} : gv (t + 1) s B = gb s (gk t s B) (gv t (!s) B) (bn B 3) := rfl
theorem gb_le {s : Bool} {f : Nat → Option Nat} {v0 N : Nat} (h0 : v0 ≤ N) : ∀ n, (∀ k v, k < n → f k = some v → v ≤ N) → gb s f v0 n ≤ N
  | 0, _ => h0
  | n + 1, h => by
    have ih := gb_le (s := s) (f := f) h0 n (fun k v hk hv => h k v (by omega) hv)
    rw [gb]
    split
    · exact ih
    · rename_i v hv
      have := h n v (by omega) hv
      split <;> omega
theorem can_t {B : Nat → Int32} (h : WF B) {k : Nat} {s : Bool} (hk : k < bn B 3) (hc : can B k s = true) : mvt B k s ≤ 9 ∧ B (61 + k) = 0 := by
  have ht := (h.tn hk).2
  unfold can at hc
  rw [decide_eq_true_eq] at hc
  refine ⟨?_, ?_⟩
  · unfold mvt
    cases s
    · rw [if_neg (by decide)]; omega
    · rw [if_pos rfl]
      have := hc.2
      rw [if_pos rfl] at this
      omega
  · rcases h.ve hk with q | q
    · exact q
    · exact absurd q hc.1
theorem gv_le : ∀ t s (B : Nat → Int32), WF B → gv t s B ≤ 15
  | 0, _, B, h => (ct_rs h).2
  | t + 1, s, B, h => by
    rw [gv_s]
    refine gb_le (gv_le t _ B h) _ (fun k v hk hv => ?_)
    unfold gk at hv
    split at hv
    · rename_i hc
      cases hv
      have := can_t h hk hc
      exact gv_le t _ _ (h.tan hk this.1)
    · cases hv
theorem gk_le {t : Nat} {s : Bool} {B : Nat → Int32} (h : WF B) {k v : Nat} (hk : k < bn B 3) (hv : gk t s B k = some v) : v ≤ 15 := by
  unfold gk at hv
  split at hv
  · rename_i hc
    cases hv
    exact gv_le t _ _ (h.tan hk (can_t h hk hc).1)
  · cases hv
abbrev bI (s : Bool) : Int32 := if s = true then nI 1 else nI 0
def gI (o : Option Nat) : Int32 := match o with
  | none => -1
  | some v => nI v
theorem up_back {I : XI} {a k : Nat} {v w : Int32} (h : I a k = w) : up2 (up2 I a k v) a k w = I := by
  funext x y
  unfold up2
  by_cases e : x = a
  · subst e
    rw [if_pos rfl, if_pos rfl]
    by_cases e2 : y = k
    · subst e2; rw [if_pos rfl, h]
    · rw [if_neg e2, if_neg e2]
  · rw [if_neg e, if_neg e]
theorem c164 {d : Nat} {Q : XQ} {S : XS} {I : XI} {J : XJ} {r : XR} {a t k : Nat} {s : Bool} {B : Nat → Int32} {W : Nat → Int64} (h0 : LY0 S r a) (c : CR I J a B W) (hk : k < bn B 3) (ht : t < 100)
    (ih : ∀ I B, CR I J a B W → (Q' : XQ) → Q' (some (.int (nI (gv t (!s) B)))) S I J r → xcall (d + 2) 162 [.ref a, .int (nI t), .int (bI (!s))] S I J r Q') (hQ : Q (some (.int (gI (gk t s B k)))) S I J r) : xcall (d + 3) 164 [.ref a, .int (nI k), .int (nI (t + 1)), .int (bI s)] S I J r Q := by
  have hb := c.wf.c.2
  have htn := c.wf.tn hk
  unfold gk at hQ
  refine E164 h0 (c72y h0 c.n7 (by omega) hk (K164_5 h0 (no (by decide) (c74 h0 c hk (fun e => K164_13 h0 (nno rfl ?_)) (fun e => K164_13 h0 (yes (by decide) ⟨vp_in_nI (by omega) (by decide), ?_⟩))))))
  · rw [if_neg (by unfold can; rw [decide_eq_true_eq]; exact fun h => h.1 e)] at hQ
    exact hQ
  rw [nI_clamp (by omega), c.tn hk]
  have go : ∀ m, (can B k s = true → m = mvt B k s) → (can B k s ≠ true → m = bn B (55 + k)) → m ≤ 9 → xrun z0 (xcall (d + 2)) Q 164 50 [.ref a, .int (nI k), .int (nI (t + 1)), .int (bI s), .int (nI (bn B (55 + k))), .float 0, .float 0] [.int (nI m)] S I J r 0 0 := fun m hm1 hm2 hm9 => by
    refine K164_50 h0 ?_
    rw [nI_eqI (by omega) (by omega)]
    by_cases hc : can B k s = true
    · rw [if_pos hc] at hQ
      have e1 := hm1 hc
      have hne : m ≠ bn B (55 + k) := by
        rw [e1]
        unfold can at hc
        rw [decide_eq_true_eq] at hc
        unfold mvt
        cases s
        · rw [if_neg (by decide)]
          have := hc.2
          rw [if_neg (by decide)] at this
          omega
        · rw [if_pos rfl]; omega
      refine yes hne ⟨vp_in_nI (by omega) (by decide), ?_⟩
      rw [nI_clamp (by omega), pk_sub (by omega), Nat.add_sub_cancel]
      have c' := c.tan hk hm9
      have fin : xcall (d + 2) 162 [.ref a, .int (nI t), .int (bI (!s))] S (up2 I (a + 9) k (nI m)) J r (fun v S1 I1 J1 r1 => xrun z0 (xcall (d + 2)) Q 164 85 [.ref a, .int (nI k), .int (nI (t + 1)), .int (bI s), .int (nI (bn B (55 + k))), .int (nI m), .float 0] (v.toList ++ []) S1 I1 J1 r1 0 0) := by
        refine ih _ _ c' _ (K164_85 h0 ⟨vp_in_nI (by omega) (by decide), ?_⟩)
        rw [nI_clamp (by omega), up_back (c.tn hk)]
        rw [e1]
        exact hQ
      cases s
      · exact nno rfl fin
      · exact yes (by decide) fin
    · rw [if_neg hc] at hQ
      exact nno (hm2 hc) hQ
  have hcan : can B k s = true ↔ bn B (55 + k) ≠ (if s = true then 9 else 0) := by
    unfold can
    rw [decide_eq_true_eq]
    exact ⟨fun h => h.2, fun h => ⟨by rw [e]; decide, h⟩⟩
  cases s
  · refine yes rfl ?_
    rw [if_neg (by decide)] at hcan
    have g0 : xrun z0 (xcall (d + 2)) Q 164 50 [.ref a, .int (nI k), .int (nI (t + 1)), .int (bI false), .int (nI (bn B (55 + k))), .float 0, .float 0] [.int (nI (bn B (55 + k) - 2))] S I J r 0 0 := go _ (fun _ => rfl) (fun h => by
      have : bn B (55 + k) = 0 := Decidable.byContradiction (fun q => h (hcan.mpr q))
      omega) (by omega)
    rcases Nat.lt_or_ge (bn B (55 + k)) 2 with q | q
    · refine E35 (no (fun h => ?_) ?_)
      · rw [i_lt, i_subI (by omega) (by omega)] at h
        have : (nI 0).toInt = 0 := rfl
        omega
      · rw [show bn B (55 + k) - 2 = 0 by omega] at g0
        exact g0
    · rw [pk_sub q]
      refine c35 (by decide) (by omega) ?_
      rw [Nat.max_eq_right (by omega)]
      exact g0
  · refine no (by decide) ?_
    rw [if_pos rfl] at hcan
    rw [nI_add]
    refine c34 (by decide) (by omega) (K164_39 (go _ (fun h => ?_) (fun h => ?_) (by omega)))
    · have := hcan.mp h
      unfold mvt
      rw [if_pos rfl]; omega
    · have : bn B (55 + k) = 9 := Decidable.byContradiction (fun q => h (hcan.mpr q))
      omega
theorem k162 {d : Nat} {Q : XQ} {S : XS} {I : XI} {J : XJ} {r : XR} {cu su a t : Nat} {s : Bool} {B : Nat → Int32} {W : Nat → Int64} (h0 : LY0 S r a) (c : CR I J a B W) (ht : t < 100)
    (ih : ∀ I B, CR I J a B W → (Q' : XQ) → Q' (some (.int (nI (gv t (!s) B)))) S I J r → xcall (d + 2) 162 [.ref a, .int (nI t), .int (bI (!s))] S I J r Q') (hQ : Q (some (.int (nI (gv (t + 1) s B)))) S I J r) :
    ∀ j i w5, i + j = bn B 3 → xrun z0 (xcall (d + 3)) Q 162 32 [.ref a, .int (nI (t + 1)), .int (bI s), .int (nI (gb s (gk t s B) (gv t (!s) B) i)), .int (nI i), w5] [] S I J r cu su
  | 0, i, w5, hi => by
    have e : i = bn B 3 := by omega
    subst e
    exact K162_32 h0 (yes (by rw [c.n7]; exact Int32.le_refl _) hQ)
  | j + 1, i, w5, hi => by
    have hb := c.wf.c.2
    have l1 := gb_le (s := s) (f := gk t s B) (gv_le t (!s) B c.wf) i (fun k v hk hv => gk_le c.wf (by omega) hv)
    have ih2 := fun w5 => k162 (d := d) (cu := cu) (su := su) h0 c ht ih hQ j (i + 1) w5 (by omega)
    refine K162_32 h0 (no (by rw [c.n7, nI_leI (by omega) (by omega)]; omega) (c164 h0 c (by omega) ht ih (K162_49 ?_)))
    rw [gb] at ih2
    cases hv : gk t s B i
    · rw [hv] at ih2
      refine yes rfl ?_
      rw [nI_add]; exact ih2 _
    · rename_i v
      rw [hv] at ih2
      dsimp only at ih2
      have l2 := gk_le c.wf (by omega) hv
      refine no (nI_m1 (by omega)) ?_
      cases s
      · rw [if_neg (by decide)] at ih2
        refine yes rfl (c34 (by omega) (by omega) (K162_76 ?_))
        rw [nI_add]; exact ih2 _
      · rw [if_pos rfl] at ih2
        refine no (by decide) (c35 (by omega) (by omega) (K162_67 (K162_76 ?_)))
        rw [nI_add]; exact ih2 _
theorem c162 {S : XS} {J : XJ} {r : XR} {a : Nat} {W : Nat → Int64} (h0 : LY0 S r a) : ∀ (t : Nat) (s : Bool) (d : Nat) (I : XI) (B : Nat → Int32), t < 100 → CR I J a B W → (Q : XQ) → Q (some (.int (nI (gv t s B)))) S I J r → xcall (d + 6 + 2 * t) 162 [.ref a, .int (nI t), .int (bI s)] S I J r Q
  | 0, s, d, I, B, ht, c, Q, hQ => by
    refine E162 h0 (no (by decide) (c163 h0 c (K162_8 (c78 (K162_11 ?_)))))
    rw [(ct_rs c.wf).1]
    exact hQ
  | t + 1, s, d, I, B, ht, c, Q, hQ => by
    have ih : ∀ I B, CR I J a B W → (Q' : XQ) → Q' (some (.int (nI (gv t (!s) B)))) S I J r → xcall (d + 4 + 2 * t + 2) 162 [.ref a, .int (nI t), .int (bI (!s))] S I J r Q' := fun I B c Q' h => by
      have := c162 h0 t (!s) d I B (by omega) c Q' h
      rw [show d + 6 + 2 * t = d + 4 + 2 * t + 2 by omega] at this
      exact this
    have key := k162 (d := d + 4 + 2 * t) (cu := 0) (su := 0) h0 c (by omega) ih hQ (bn B 3) 0 (.float 0) (by omega)
    have go : xcall (d + 4 + 2 * t + 3) 162 [.ref a, .int (nI t), .int (bI (!s))] S I J r (fun v S1 I1 J1 r1 => xrun z0 (xcall (d + 4 + 2 * t + 3)) Q 162 28 [.ref a, .int (nI (t + 1)), .int (bI s), .float 0, .float 0, .float 0] (v.toList ++ []) S1 I1 J1 r1 0 0) :=
      xcall_imp (by omega) (ih I B c _ (K162_28 key)) (fun _ _ _ _ _ h => h)
    rw [show d + 6 + 2 * (t + 1) = d + 4 + 2 * t + 3 + 1 by omega]
    refine E162 h0 (yes ?_ ?_)
    · show nI 0 < nI (t + 1)
      rw [nI_ltI (by decide) (by omega)]; omega
    rw [pk_sub (by omega), Nat.add_sub_cancel]
    cases s
    · exact nno rfl go
    · exact yes (by decide) go
