/-! what is done: the class -/
def dkB (B : Nat → Int32) (k m : Nat) : Int32 × (Nat → Int32) := if B (61 + k) = 1 ∨ bn B (55 + k) = 9 then (0, B) else (1, ub B (55 + k) (nI (min 9 (bn B (55 + k) + m))))
theorem c109 {d : Nat} {Q : XQ} {S : XS} {I : XI} {J : XJ} {r : XR} {a k m : Nat} {B : Nat → Int32} {W : Nat → Int64} (h0 : LY0 S r a) (c : CR I J a B W) (hk : k < bn B 3) (hm : m ≤ 9) (hQ : ∀ I', frc a I I' → CR I' J a (dkB B k m).2 W → Q (some (.int (dkB B k m).1)) S I' J r) : xcall (d + 2) 109 [.ref a, .int (nI k), .int (nI m)] S I J r Q := by
  have hc := c.wf.c.2
  have ht := c.wf.tn hk
  unfold dkB at hQ
  refine E109 h0 (c72y h0 c.n7 (by omega) hk (K109_5 h0 (no (by decide) (c74 h0 c hk (fun e => K109_13 h0 (yes rfl ?_)) (fun e => K109_13 h0 (no (by decide) ⟨vp_in_nI (by omega) (by decide), ?_⟩))))))
  · rw [if_pos (Or.inl e)] at hQ
    exact hQ I (frc.r a I) c
  · rw [nI_clamp (by omega), c.tn hk]
    by_cases h9 : bn B (55 + k) = 9
    · rw [if_pos (Or.inr h9)] at hQ
      exact no (by rw [nI_ltI (by omega) (by decide)]; omega) (hQ I (frc.r a I) c)
    · rw [if_neg (fun h => by
        rcases h with h | h
        · rw [e] at h; exact absurd h (by decide)
        · exact h9 h)] at hQ
      refine yes (by rw [nI_ltI (by omega) (by decide)]; omega) ⟨vp_in_nI (by omega) (by decide), ?_⟩
      rw [nI_add]
      refine c34 (by decide) (by omega) (K109_47 h0 ⟨vp_in_nI (by omega) (by decide), ?_⟩)
      rw [nI_clamp (by omega)]
      exact hQ _ ((frc.r a I).u (by omega) (by omega)) (c.tan hk (by omega))
def rnB (B : Nat → Int32) (m : Nat) : Nat → Nat × (Nat → Int32)
  | 0 => (0, B)
  | n + 1 => if (rnB B m n).2 (61 + n) = 1 ∨ bn (rnB B m n).2 (55 + n) = 0 then rnB B m n else ((rnB B m n).1 + 1, ub (rnB B m n).2 (55 + n) (nI (bn (rnB B m n).2 (55 + n) - m)))
theorem rnB_3 {B : Nat → Int32} {m : Nat} : ∀ n, n ≤ 6 → bn (rnB B m n).2 3 = bn B 3 ∧ (rnB B m n).1 ≤ n
  | 0, _ => ⟨rfl, Nat.le_refl _⟩
  | n + 1, h => by
    have := rnB_3 (B := B) (m := m) n (by omega)
    rw [rnB]
    split
    · exact ⟨this.1, by omega⟩
    · refine ⟨?_, by show _ + 1 ≤ n + 1; omega⟩
      show bn (ub _ _ _) 3 = _
      rw [bn_o (by omega)]; exact this.1
theorem k111 {d : Nat} {Q : XQ} {S : XS} {I : XI} {J : XJ} {r : XR} {cu su a m : Nat} {B : Nat → Int32} {W : Nat → Int64} (h0 : LY0 S r a) (hc : bn B 3 ≤ 6) (hm : m ≤ 9) (hQ : ∀ I', frc a I I' → CR I' J a (rnB B m (bn B 3)).2 W → Q (some (.int (nI (rnB B m (bn B 3)).1))) S I' J r) :
    ∀ j i I1, i + j = bn B 3 → frc a I I1 → CR I1 J a (rnB B m i).2 W → xrun z0 (xcall (d + 1)) Q 111 4 [.ref a, .int (nI m), .int (nI (rnB B m i).1), .int (nI i)] [] S I1 J r cu su
  | 0, i, I1, hi, g, c => by
    have e : i = bn B 3 := by omega
    subst e
    refine K111_4 h0 (yes ?_ (hQ I1 g c))
    rw [c.n7, (rnB_3 _ hc).1]; exact Int32.le_refl _
  | j + 1, i, I1, hi, g, c => by
    have h3 := rnB_3 (B := B) (m := m) i (by omega)
    have hk : i < bn (rnB B m i).2 3 := by omega
    have ht := c.wf.tn hk
    have ih := fun I2 (g2 : frc a I I2) (c2 : CR I2 J a (rnB B m (i + 1)).2 W) => k111 (d := d) (cu := cu) (su := su) h0 hc hm hQ j (i + 1) I2 (by omega) g2 c2
    rw [rnB] at ih
    refine K111_4 h0 (no ?_ (c74 h0 c hk (fun e => K111_17 h0 (yes rfl ?_)) (fun e => K111_17 h0 (no (by decide) ⟨vp_in_nI (by omega) (by decide), ?_⟩))))
    · rw [c.n7, h3.1, nI_leI (by omega) (by omega)]; omega
    · rw [if_pos (Or.inl e)] at ih
      rw [nI_add]; exact ih I1 g c
    · rw [nI_clamp (by omega), c.tn hk]
      by_cases h9 : bn (rnB B m i).2 (55 + i) = 0
      · rw [if_pos (Or.inr h9)] at ih
        refine yes (by rw [h9]; decide) ?_
        rw [nI_add]; exact ih I1 g c
      · rw [if_neg (fun h => by
          rcases h with h | h
          · rw [e] at h; exact absurd h (by decide)
          · exact h9 h)] at ih
        refine no (nI_nle (by omega) (by omega)) ⟨vp_in_nI (by omega) (by decide), ?_⟩
        have fin : ∀ y, y = nI (bn (rnB B m i).2 (55 + i) - m) → xrun z0 (xcall (d + 1)) Q 111 46 [.ref a, .int (nI m), .int (nI (rnB B m i).1), .int (nI i)] [.int y, .int (nI i), .ref (a + 9)] S I1 J r cu su := fun y hy => by
          refine K111_46 h0 ⟨vp_in_nI (by omega) (by decide), ?_⟩
          rw [nI_clamp (by omega), hy, nI_add, nI_add]
          exact ih _ (g.u (by omega) (by omega)) (c.tan hk (by omega))
        rcases Nat.lt_or_ge (bn (rnB B m i).2 (55 + i)) m with q | q
        · refine E35 (no (fun h => ?_) (fin _ ?_))
          · rw [i_lt, i_subI (by omega) (by omega)] at h
            have : (nI 0).toInt = 0 := rfl
            omega
          · rw [show bn (rnB B m i).2 (55 + i) - m = 0 by omega]
        · rw [pk_sub q]
          exact c35 (by decide) (by omega) (fin _ (by rw [Nat.max_eq_right (by omega)]))
theorem c111 {d : Nat} {Q : XQ} {S : XS} {I : XI} {J : XJ} {r : XR} {a m : Nat} {B : Nat → Int32} {W : Nat → Int64} (h0 : LY0 S r a) (c : CR I J a B W) (hm : m ≤ 9) (hQ : ∀ I', frc a I I' → CR I' J a (rnB B m (bn B 3)).2 W → Q (some (.int (nI (rnB B m (bn B 3)).1))) S I' J r) : xcall (d + 2) 111 [.ref a, .int (nI m)] S I J r Q :=
  E111 (k111 h0 c.wf.c.2 hm hQ (bn B 3) 0 I (by omega) (frc.r a I) c)
def vlB (B : Nat → Int32) (k : Nat) (b : Int32) : Int32 × (Nat → Int32) := if B (61 + k) = b then (0, B) else (1, ub B (61 + k) b)
theorem c73 {d : Nat} {Q : XQ} {S : XS} {I : XI} {J : XJ} {r : XR} {a k : Nat} {b : Int32} {B : Nat → Int32} {W : Nat → Int64} (h0 : LY0 S r a) (c : CR I J a B W) (hk : k < bn B 3) (hb : b = 0 ∨ b = 1) (hQ : ∀ I', frc a I I' → CR I' J a (vlB B k b).2 W → Q (some (.int (vlB B k b).1)) S I' J r) : xcall (d + 2) 73 [.ref a, .int (nI k), .int b] S I J r Q := by
  have hc := c.wf.c.2
  unfold vlB at hQ
  refine E73 h0 (c72y h0 c.n7 (by omega) hk (K73_5 h0 (no (by decide) (c74 h0 c hk (fun e => K73_13 h0 ?_) (fun e => K73_13 h0 ?_)))))
  · rcases hb with rfl | rfl
    · rw [if_neg (by rw [e]; decide)] at hQ
      exact yes rfl (hQ _ ((frc.r a I).u (by omega) (by omega)) (c.veil hk (Or.inl rfl) (by rw [e]; decide)))
    · rw [if_pos e] at hQ
      exact no (by decide) (hQ I (frc.r a I) c)
  · rcases hb with rfl | rfl
    · rw [if_pos e] at hQ
      exact no (by decide) (hQ I (frc.r a I) c)
    · rw [if_neg (by rw [e]; decide)] at hQ
      exact yes rfl (hQ _ ((frc.r a I).u (by omega) (by omega)) (c.veil hk (Or.inr rfl) (by rw [e]; decide)))
theorem bt_orb {x : Int32} {c i : Nat} (hc : c < 32) (hi : i < 32) : bt (x ||| bi c) i = true ↔ bt x i = true ∨ i = c := by
  rw [b_or, Bool.or_eq_true, bt_bi hc hi]
theorem ct_or1 {x : Int32} {c : Nat} (hx : bt x c = false) (hc32 : c < 32) : ∀ n, n ≤ 32 → ctN (x ||| bi c) n = ctN x n + (if c < n then 1 else 0)
  | 0, _ => by rw [if_neg (by omega)]; rfl
  | n + 1, hn => by
    have hb := bt_orb (x := x) hc32 (i := n) (by omega)
    rw [ctN, ctN, ct_or1 hx hc32 n (by omega)]
    by_cases e : n = c
    · subst e
      rw [if_neg (by omega), if_pos (hb.mpr (Or.inr rfl)), if_neg (by rw [hx]; decide), if_pos (by omega)]
    · by_cases h : bt x n = true
      · rw [if_pos h, if_pos (hb.mpr (Or.inl h))]
        by_cases h2 : c < n
        · rw [if_pos h2, if_pos (by omega)]
        · rw [if_neg h2, if_neg (by omega)]
      · rw [if_neg h, if_neg (c := bt (x ||| bi c) n = true) (fun q => by
          rcases hb.mp q with q | q
          · exact h q
          · exact e q)]
        by_cases h2 : c < n
        · rw [if_pos h2, if_pos (by omega)]
        · rw [if_neg h2, if_neg (by omega)]
def ikB (B : Nat → Int32) (k c : Nat) : Nat × (Nat → Int32) := if ctN (B (67 + k)) 30 = 6 then (7, B) else if inP B k c = true ∧ bt (B (67 + k)) c = false then (0, ub B (67 + k) (B (67 + k) ||| bi c)) else (9, B)
theorem WF.ik1 {B : Nat → Int32} (h : WF B) {k c : Nat} (hk : k < bn B 3) (h1 : inP B k c = true) (h2 : bt (B (67 + k)) c = false) (h6 : ctN (B (67 + k)) 30 ≠ 6) : (∀ i, i < 32 → bt (B (67 + k) ||| bi c) i = true → inP B k i = true) ∧ ctN (B (67 + k) ||| bi c) 30 ≤ 6 := by
  have hN := ce_le h
  have hc := inP_lt h hk h1
  have := (h.ik hk).2
  refine ⟨fun i hi hb => ?_, ?_⟩
  · rcases (bt_orb (by omega) hi).mp hb with q | q
    · exact (h.ik hk).1 i hi q
    · rw [q]; exact h1
  · rw [ct_or1 h2 (by omega) 30 (by decide)]
    split <;> omega
theorem c77 {d : Nat} {Q : XQ} {S : XS} {I : XI} {J : XJ} {r : XR} {a k x : Nat} {B : Nat → Int32} {W : Nat → Int64} (h0 : LY0 S r a) (c : CR I J a B W) (hk : k < bn B 3) (hx : x < ce B) (hQ : ∀ I', frc a I I' → CR I' J a (ikB B k x).2 W → Q (some (.int (nI (ikB B k x).1))) S I' J r) : xcall (d + 2) 77 [.ref a, .int (nI k), .int (nI x)] S I J r Q := by
  have hc := c.wf.c.2
  have hN := ce_le c.wf
  have h6 := (c.wf.ik hk).2
  have hct := ct_in (n := ce B) (by omega) (ik_in c.wf hk)
  unfold ikB at hQ
  refine E77 h0 (c72y h0 c.n7 (by omega) hk (K77_5 h0 (no (by decide) (c76y h0 c hx (K77_13 h0 (yes (by decide) ⟨vp_in_nI (by omega) (by decide), ?_⟩))))))
  rw [nI_clamp (by omega), c.ik hk]
  refine c78 (K77_27 h0 ?_)
  rw [hct, nI_ltI (by omega) (by decide)]
  by_cases q : ctN (B (67 + k)) 30 = 6
  · rw [if_pos q] at hQ
    exact no (by omega) (hQ I (frc.r a I) c)
  · rw [if_neg q] at hQ
    refine yes (by omega) ⟨vp_in_nI (by omega) (by decide), vp_in_nI (by omega) (by decide), ?_⟩
    rw [nI_clamp (by omega), c.pt hk, c.ik hk]
    have hz : ((pat B k &&& (B (67 + k) ^^^ (-1 : Int32))) &&& (nI 1 <<< (nI x &&& 31)) = 0) ↔ ¬ (inP B k x = true ∧ bt (B (67 + k)) x = false) := by
      have e : bt (pat B k &&& (B (67 + k) ^^^ (-1 : Int32))) x = true ↔ (inP B k x = true ∧ bt (B (67 + k)) x = false) := by
        rw [b_and, Bool.and_eq_true, bt_pat c.wf hk (by omega), bt_not (by omega), Bool.not_eq_true']
      rw [i_and_bit (by omega), ← e]
      by_cases q2 : bt (pat B k &&& (B (67 + k) ^^^ (-1 : Int32))) x = true
      · rw [if_pos q2]
        refine ⟨fun h => ?_, fun h => absurd q2 h⟩
        have h5 := congrArg (fun y => bt y x) h
        rw [bt_bit (by omega) (by omega), b_0] at h5
        simp at h5
      · rw [if_neg q2]; exact ⟨fun _ => q2, fun _ => rfl⟩
    by_cases q2 : inP B k x = true ∧ bt (B (67 + k)) x = false
    · rw [if_pos q2] at hQ
      have w1 := c.wf.ik1 hk q2.1 q2.2 q
      exact yes (fun h => hz.mp h q2) ⟨vp_in_nI (by omega) (by decide), vp_in_nI (by omega) (by decide), hQ _ ((frc.r a I).u (by omega) (by omega)) (c.ink hk w1.1 w1.2)⟩
    · rw [if_neg q2] at hQ
      exact nno (hz.mpr q2) (hQ I (frc.r a I) c)
theorem ct_0 (n : Nat) : ctN 0 n = 0 := by
  induction n with
  | zero => rfl
  | succ n ih => rw [ctN, ih, b_0]; rfl
theorem c115 {d : Nat} {Q : XQ} {S : XS} {I : XI} {J : XJ} {r : XR} {a k : Nat} {B : Nat → Int32} {W : Nat → Int64} (h0 : LY0 S r a) (c : CR I J a B W) (hk : k < bn B 3) (hQ : ∀ I', frc a I I' → CR I' J a (ub B (67 + k) 0) W → Q (some (.int (nI (ctN (B (67 + k)) 30)))) S I' J r) : xcall (d + 2) 115 [.ref a, .int (nI k)] S I J r Q := by
  have hc := c.wf.c.2
  have hN := ce_le c.wf
  have hct := ct_in (n := ce B) (by omega) (ik_in c.wf hk)
  refine E115 h0 (c72y h0 c.n7 (by omega) hk (K115_5 h0 (yes (by decide) ⟨vp_in_nI (by omega) (by decide), ?_⟩)))
  rw [nI_clamp (by omega), c.ik hk]
  refine c78 (K115_19 h0 ⟨vp_in_nI (by omega) (by decide), ?_⟩)
  rw [nI_clamp (by omega), hct]
  exact hQ (up2 I (a + 10) k 0) ((frc.r a I).u (by omega) (by omega)) (c.ink hk (fun i _ h => by rw [b_0] at h; cases h) (by rw [ct_0]; decide))
/-! the reference's -/
def f70 (I I' : XI) : Prop := ∀ q, q ≠ 70 → I' q = I q
theorem f70.r (I : XI) : f70 I I := fun _ _ => rfl
theorem f70.u {I I' : XI} {i : Nat} {v : Int32} (h : f70 I I') : f70 I (up2 I' 70 i v) := fun q hq => by rw [up_o hq]; exact h q hq
theorem f70.t {I I' I2 : XI} (h : f70 I I') (h2 : f70 I' I2) : f70 I I2 := fun q hq => (h2 q hq).trans (h q hq)
theorem up70 {I : XI} {i : Nat} {v : Int32} : (up2 I 70 i v) 70 = ub (I 70) i v := by
  funext j
  unfold up2 ub
  rw [if_pos rfl]
theorem r276 {d : Nat} {Q : XQ} {S : XS} {I : XI} {J : XJ} {r : XR} {k m : Nat} (hL : LAY S r) (w : WF (I 70)) (hk : k < bn (I 70) 3) (hm : m ≤ 9) (hQ : ∀ I', f70 I I' → I' 70 = (dkB (I 70) k m).2 → Q (some (.int (dkB (I 70) k m).1)) S I' J r) : xcall (d + 2) 276 [.ref 65, .int (nI k), .int (nI m)] S I J r Q := by
  have hc := w.c.2
  have ht := w.tn hk
  unfold dkB at hQ
  refine E276 hL ?_
  rw [nI_add, nI_add, nI_clamp (by omega), nI_clamp (by omega), ht.1]
  refine ⟨vp_in_nI (by omega) (by decide), ?_⟩
  by_cases e : I 70 (61 + k) = 1
  · rw [if_pos (Or.inl e)] at hQ
    exact yes e (hQ I (f70.r I) rfl)
  · refine no e ⟨vp_in_nI (by omega) (by decide), ?_⟩
    by_cases h9 : bn (I 70) (55 + k) = 9
    · rw [if_pos (Or.inr h9)] at hQ
      exact nno (by rw [h9]) (hQ I (f70.r I) rfl)
    · rw [if_neg (fun h => by
        rcases h with h | h
        · exact e h
        · exact h9 h)] at hQ
      refine yes (by rw [nI_eqI (by omega) (by decide)]; exact h9) ⟨vp_in_nI (by omega) (by decide), ?_⟩
      rw [nI_add]
      refine c34 (by decide) (by omega) (K276_53 hL ⟨vp_in_nI (by omega) (by decide), ?_⟩)
      rw [nI_clamp (by omega)]
      exact hQ _ (f70.r I).u up70
theorem WF.rn {B : Nat → Int32} (h : WF B) {m : Nat} : ∀ n, n ≤ bn B 3 → WF (rnB B m n).2
  | 0, _ => h
  | n + 1, hn => by
    have ih := WF.rn h (m := m) n (by omega)
    have h3 := rnB_3 (B := B) (m := m) n (by have := h.c.2; omega)
    have ht := ih.tn (k := n) (by omega)
    rw [rnB]
    split
    · exact ih
    · exact ih.tan (k := n) (by omega) (by omega)
theorem k278 {d : Nat} {Q : XQ} {S : XS} {I : XI} {J : XJ} {r : XR} {cu su m : Nat} {B : Nat → Int32} (hL : LAY S r) (w : WF B) (hm : m ≤ 9) (hQ : ∀ I', f70 I I' → I' 70 = (rnB B m (bn B 3)).2 → Q (some (.int (nI (rnB B m (bn B 3)).1))) S I' J r) :
    ∀ j i I1, i + j = bn B 3 → f70 I I1 → I1 70 = (rnB B m i).2 → xrun z0 (xcall (d + 1)) Q 278 4 [.ref 65, .int (nI m), .int (nI (rnB B m i).1), .int (nI i)] [] S I1 J r cu su
  | 0, i, I1, hi, g, hI => by
    have hc := w.c.2
    have e : i = bn B 3 := by omega
    subst e
    have w' := w.rn (m := m) _ (Nat.le_refl (bn B 3))
    refine K278_4 hL (yes ?_ (hQ I1 g hI))
    rw [hI, w'.c.1, (rnB_3 _ hc).1]; exact Int32.le_refl _
  | j + 1, i, I1, hi, g, hI => by
    have hc := w.c.2
    have w' := w.rn (m := m) i (by omega)
    have h3 := rnB_3 (B := B) (m := m) i (by omega)
    have hk : i < bn (rnB B m i).2 3 := by omega
    have ht := w'.tn hk
    have ih := fun I2 (g2 : f70 I I2) (c2 : I2 70 = (rnB B m (i + 1)).2) => k278 (d := d) (cu := cu) (su := su) hL w hm hQ j (i + 1) I2 (by omega) g2 c2
    rw [rnB] at ih
    refine K278_4 hL (no ?_ ?_)
    · rw [hI, w'.c.1, h3.1, nI_leI (by omega) (by omega)]; omega
    simp only [nI_add]
    rw [nI_clamp (by omega), nI_clamp (by omega), hI, ht.1]
    refine ⟨vp_in_nI (by omega) (by decide), ?_⟩
    by_cases e : (rnB B m i).2 (61 + i) = 1
    · rw [if_pos (Or.inl e)] at ih
      exact yes e (ih I1 g hI)
    · refine no e ⟨vp_in_nI (by omega) (by decide), ?_⟩
      by_cases h9 : bn (rnB B m i).2 (55 + i) = 0
      · rw [if_pos (Or.inr h9)] at ih
        exact nno (by rw [h9]; rfl) (ih I1 g hI)
      · rw [if_neg (fun h => by
          rcases h with h | h
          · exact e h
          · exact h9 h)] at ih
        refine yes (nI_ne0 (by omega) (by omega)) ⟨vp_in_nI (by omega) (by decide), ?_⟩
        have fin : ∀ y, y = nI (bn (rnB B m i).2 (55 + i) - m) → xrun z0 (xcall (d + 1)) Q 278 65 [.ref 65, .int (nI m), .int (nI (rnB B m i).1), .int (nI i)] [.int y, .int (nI (55 + i)), .ref 70] S I1 J r cu su := fun y hy => by
          refine K278_65 hL ⟨vp_in_nI (by omega) (by decide), ?_⟩
          rw [nI_clamp (by omega), hy, nI_add, nI_add]
          exact ih _ g.u (by rw [up70, hI])
        rcases Nat.lt_or_ge (bn (rnB B m i).2 (55 + i)) m with q | q
        · refine E35 (no (fun h => ?_) (fin _ ?_))
          · rw [i_lt, i_subI (by omega) (by omega)] at h
            have : (nI 0).toInt = 0 := rfl
            omega
          · rw [show bn (rnB B m i).2 (55 + i) - m = 0 by omega]
        · rw [pk_sub q]
          exact c35 (by decide) (by omega) (fin _ (by rw [Nat.max_eq_right (by omega)]))
theorem r278 {d : Nat} {Q : XQ} {S : XS} {I : XI} {J : XJ} {r : XR} {m : Nat} (hL : LAY S r) (w : WF (I 70)) (hm : m ≤ 9) (hQ : ∀ I', f70 I I' → I' 70 = (rnB (I 70) m (bn (I 70) 3)).2 → Q (some (.int (nI (rnB (I 70) m (bn (I 70) 3)).1))) S I' J r) : xcall (d + 2) 278 [.ref 65, .int (nI m)] S I J r Q :=
  E278 (k278 hL w hm hQ (bn (I 70) 3) 0 I (by omega) (f70.r I) rfl)
/-- a word becomes so -/
theorem r280 {d : Nat} {Q : XQ} {S : XS} {I : XI} {J : XJ} {r : XR} {i : Nat} {v : Int32} (hL : LAY S r) (hi : i < 1725) (hQ : ∀ I', f70 I I' → I' 70 = ub (I 70) i v → Q (some (.int (if I 70 i = v then 0 else 1))) S I' J r) : xcall (d + 1) 280 [.ref 65, .int (nI i), .int v] S I J r Q := by
  refine E280 hL ?_
  rw [nI_clamp (by omega)]
  refine ⟨vp_in_nI hi (by decide), ?_⟩
  by_cases e : I 70 i = v
  · rw [if_pos e] at hQ
    exact nno e (hQ I (f70.r I) (ub_same e).symm)
  · rw [if_neg e] at hQ
    exact yes e ⟨vp_in_nI hi (by decide), hQ _ (f70.r I).u up70⟩
theorem vlB_ub {B : Nat → Int32} {k : Nat} {b : Int32} : (vlB B k b).1 = (if B (61 + k) = b then 0 else 1) ∧ (vlB B k b).2 = ub B (61 + k) b := by
  unfold vlB
  by_cases e : B (61 + k) = b
  · rw [if_pos e, if_pos e]; exact ⟨rfl, (ub_same e).symm⟩
  · rw [if_neg e, if_neg e]; exact ⟨rfl, rfl⟩
theorem r283 {d : Nat} {Q : XQ} {S : XS} {I : XI} {J : XJ} {r : XR} {k x : Nat} (hL : LAY S r) (w : WF (I 70)) (hk : k < bn (I 70) 3) (hx : x < ce (I 70)) (hQ : ∀ I', f70 I I' → I' 70 = (ikB (I 70) k x).2 → Q (some (.int (if (ikB (I 70) k x).1 = 0 then 1 else 0))) S I' J r) : xcall (d + 3) 283 [.ref 65, .int (nI k), .int (nI x)] S I J r Q := by
  have hc := w.c.2
  have hN := ce_le w
  have h6 := (w.ik hk).2
  unfold ikB at hQ
  refine E283 hL ?_
  rw [nI_add, nI_clamp (by omega)]
  refine ⟨vp_in_nI (by omega) (by decide), c282 (K283_12 hL ?_)⟩
  rw [nI_eqI (by omega) (by decide)]
  by_cases q : ctN (I 70 (67 + k)) 30 = 6
  · rw [if_pos q] at hQ
    exact yes q (hQ I (f70.r I) rfl)
  · rw [if_neg q] at hQ
    refine no q (r249w hL w hk (by omega) (fun h1 => K283_24 hL (no (by decide) ?_)) (fun h1 => K283_24 hL (yes rfl ?_)))
    · rw [nI_add, nI_clamp (by omega)]
      refine ⟨vp_in_nI (by omega) (by decide), c250 (by omega) (fun h2 => K283_40 hL (no (by decide) ?_)) (fun h2 => K283_40 hL (yes rfl ?_))⟩
      · rw [if_neg (fun h => by rw [h.2] at h2; cases h2)] at hQ
        exact hQ I (f70.r I) rfl
      · rw [if_pos ⟨h1, h2⟩] at hQ
        rw [nI_add, nI_clamp (by omega)]
        exact ⟨vp_in_nI (by omega) (by decide), vp_in_nI (by omega) (by decide), hQ _ (f70.r I).u up70⟩
    · rw [if_neg (fun h => by rw [h.1] at h1; cases h1)] at hQ
      exact hQ I (f70.r I) rfl
