/-! the reference's faults -/
def GM (I : XI) : Prop := I 65 12 = nI 0
def BM (I : XI) : Prop := ∃ k, I 65 12 = nI k ∧ 0 < k ∧ k < 100
def fm (I : XI) (k s : Nat) : XI := up2 (up2 I 65 12 (nI k)) 65 13 (nI s)
theorem fm_b {I : XI} {k s : Nat} (h : 0 < k) (h2 : k < 100) : BM (fm I k s) := ⟨k, by unfold fm; rw [up_i (by decide), up_e], h, h2⟩
theorem GM.k {I I' : XI} (h : GM I) (k : mk I I') : GM I' := (k 65 12 (by omega)).trans h
theorem GM.le {I : XI} (h : GM I) : I 65 12 ≤ 0 := by rw [h]; exact Int32.le_refl _
theorem BM.nle {I : XI} (h : BM I) : ¬ I 65 12 ≤ 0 := by
  obtain ⟨k, h1, h2, h3⟩ := h
  rw [h1, show (0 : Int32) = nI 0 from rfl, nI_leI (by omega) (by omega)]; omega
theorem BM.ne {I : XI} (h : BM I) : ¬ I 65 12 = 0 := by
  obtain ⟨k, h1, h2, h3⟩ := h
  rw [h1, show (0 : Int32) = nI 0 from rfl, nI_eqI (by omega) (by omega)]; omega
theorem BM.lt {I : XI} (h : BM I) : 0 < I 65 12 := by
  obtain ⟨k, h1, h2, h3⟩ := h
  rw [h1, show (0 : Int32) = nI 0 from rfl, nI_ltI (by omega) (by omega)]; omega
theorem GM.nlt {I : XI} (h : GM I) : ¬ 0 < I 65 12 := by rw [h]; decide
theorem am_le {F : Nat → Int32} {n s : Nat} : 0 < am F n s ∧ am F n s < 100 := by unfold am; split <;> decide
theorem r217 {d : Nat} {Q : XQ} {S : XS} {I : XI} {J : XJ} {r : XR} {k s : Nat} (hL : LAY S r) (g : GM I) (hQ : Q none S (fm I k s) J r) : xcall (d + 1) 217 [.ref 65, .int (nI k), .int (nI s)] S I J r Q := E217 hL (yes g.le hQ)
theorem r217b {d : Nat} {Q : XQ} {S : XS} {I : XI} {J : XJ} {r : XR} {k s : Int32} (hL : LAY S r) (g : BM I) (hQ : Q none S I J r) : xcall (d + 1) 217 [.ref 65, .int k, .int s] S I J r Q := E217 hL (no g.nle hQ)
theorem r220 {d : Nat} {Q : XQ} {S : XS} {I : XI} {J : XJ} {r : XR} {n s : Nat} {F : Nat → Int32} (hL : LAY S r) (h : RM I J n F s) (g : GM I) (hQ : Q none S (fm I (am F n s) s) J r) : xcall (d + 2) 220 [.ref 65] S I J r Q := by
  refine E220 hL ?_
  rw [h.2.2.2.1, nI_eqI (by have := kd_le (F := F) (n := n) (s := s); omega) (by decide), h.2.1]
  unfold am at hQ
  by_cases q : kd F n s = 4
  · rw [if_pos q] at hQ
    exact nno q (r217 hL g (K220_21 hQ))
  · rw [if_neg q] at hQ
    exact yes q (r217 hL g (K220_21 hQ))
theorem r220b {d : Nat} {Q : XQ} {S : XS} {I : XI} {J : XJ} {r : XR} (hL : LAY S r) (g : BM I) (hQ : Q none S I J r) : xcall (d + 2) 220 [.ref 65] S I J r Q :=
  E220 hL ⟨fun _ => E217 hL (no g.nle (K220_21 hQ)), fun _ => E217 hL (no g.nle (K220_21 hQ))⟩
theorem r222b {d : Nat} {Q : XQ} {S : XS} {I : XI} {J : XJ} {r : XR} {x : Int32} (hL : LAY S r) (g : BM I) (hQ : Q none S I J r) : xcall (d + 1) 222 [.ref 65, .int x] S I J r Q := E222 hL (no g.nle hQ)
theorem r222t {d : Nat} {Q : XQ} {S : XS} {I : XI} {J : XJ} {r : XR} {n s : Nat} {F : Nat → Int32} (hL : LAY S r) (hn : n ≤ 900) (hs : s ≤ n) (h : RM I J n F s) (g : GM I)
    (hQ : ∀ I' J', mk I I' → jk 65 19 J J' → RM I' J' n F (nxt F n s) → Q none S I' J' r) : xcall (d + 3) 222 [.ref 65, .int (nI 1)] S I J r Q :=
  E222 hL (yes g.le (no (by decide) (r207 hL hn hs h (fun I' J' f1 f2 f3 => K222_16 (K222_23 (hQ I' J' f1 f2 f3))))))
theorem r222f {d : Nat} {Q : XQ} {S : XS} {I : XI} {J : XJ} {r : XR} {n s : Nat} {F : Nat → Int32} (hL : LAY S r) (h : RM I J n F s) (g : GM I) (hQ : Q none S (fm I (am F n s) s) J r) : xcall (d + 3) 222 [.ref 65, .int (nI 0)] S I J r Q :=
  E222 hL (yes g.le (yes rfl (r220 hL h g (K222_23 hQ))))
theorem sN_le {F : Nat → Int32} {n s lo hi : Nat} : sN F n s lo hi < 100 := by
  unfold sN am
  split
  · split <;> decide
  · split <;> decide
theorem sN_0 {F : Nat → Int32} {n s lo hi : Nat} (h : sN F n s lo hi = 0) : kd F n s = 2 ∧ lo ≤ nm F n s ∧ nm F n s ≤ hi := by
  unfold sN at h
  by_cases q : kd F n s = 2
  · rw [if_pos q] at h
    by_cases q2 : lo ≤ nm F n s ∧ nm F n s ≤ hi
    · exact ⟨q, q2⟩
    · rw [if_neg q2] at h; cases h
  · rw [if_neg q] at h
    have := (am_le (F := F) (n := n) (s := s)).1
    omega
theorem r219b {d : Nat} {Q : XQ} {S : XS} {I : XI} {J : XJ} {r : XR} {x y : Int32} (hL : LAY S r) (g : BM I) (hQ : Q (some (.int (nI 0))) S I J r) : xcall (d + 1) 219 [.ref 65, .int x, .int y] S I J r Q :=
  E219 hL (yes g.ne (K219_19 hL (yes g.ne (K219_50 hL (no g.nle hQ)))))
theorem r219 {d : Nat} {Q : XQ} {S : XS} {I : XI} {J : XJ} {r : XR} {n s lo hi : Nat} {F : Nat → Int32} (hL : LAY S r) (h : RM I J n F s) (g : GM I) (hl : lo < 1000000) (hh : hi < 1000000) (hT : sN F n s lo hi = 0 → Q (some (.int (nI (nm F n s)))) S I J r) (hF : sN F n s lo hi ≠ 0 → Q (some (.int (nI 0))) S (fm I (sN F n s lo hi) s) J r) : xcall (d + 3) 219 [.ref 65, .int (nI lo), .int (nI hi)] S I J r Q := by
  refine E219 hL (nno g ?_)
  rw [h.2.2.2.1, nI_eqI (by have := kd_le (F := F) (n := n) (s := s); omega) (by decide)]
  unfold sN at hT hF
  by_cases q : kd F n s = 2
  · have hm := nm_lt q
    rw [if_pos q] at hT hF
    refine yes q (K219_19 hL (nno g ?_))
    rw [h.2.2.2.2.2.1 q, nI_l (by omega), nI_l (by omega), nI_l (by omega)]
    refine c221 (fun h1 h2 => K219_38 hL (yes (by decide) (K219_50 hL (yes g.le ?_)))) (fun h1 => K219_38 hL (nno rfl ?_))
    · rw [l_i (by omega), l_i (by omega)] at h1 h2
      rw [h.2.2.2.2.2.1 q]
      exact hT (by rw [if_pos (by omega)])
    · rw [l_i (by omega), l_i (by omega), l_i (by omega)] at h1
      rw [if_neg (c := lo ≤ nm F n s ∧ nm F n s ≤ hi) (by omega)] at hF
      rw [h.2.1]
      exact r217 hL g (K219_50 hL (no (fm_b (by decide) (by decide)).nle (hF (by decide))))
  · rw [if_neg q] at hF
    have l := am_le (F := F) (n := n) (s := s)
    have b := fm_b (I := I) (s := s) l.1 l.2
    exact no q (r220 hL h g (K219_19 hL (yes b.ne (K219_50 hL (no b.nle (hF (by omega)))))))
theorem r218b {d : Nat} {Q : XQ} {S : XS} {I : XI} {J : XJ} {r : XR} {x y : Int32} (hL : LAY S r) (g : BM I) (hQ : Q (some (.int (nI 0))) S I J r) : xcall (d + 2) 218 [.ref 65, .int x, .int y] S I J r Q :=
  E218 hL (r219b hL g (K218_6 hL (r222b hL g (K218_12 hQ))))
theorem r218 {d : Nat} {Q : XQ} {S : XS} {I : XI} {J : XJ} {r : XR} {n s lo hi : Nat} {F : Nat → Int32} (hL : LAY S r) (hn : n ≤ 900) (hs : s ≤ n) (h : RM I J n F s) (g : GM I) (hl : lo < 1000000) (hh : hi < 1000000) (hT : sN F n s lo hi = 0 → ∀ I' J', mk I I' → jk 65 19 J J' → RM I' J' n F (nxt F n s) → Q (some (.int (nI (nm F n s)))) S I' J' r) (hF : sN F n s lo hi ≠ 0 → Q (some (.int (nI 0))) S (fm I (sN F n s lo hi) s) J r) : xcall (d + 4) 218 [.ref 65, .int (nI lo), .int (nI hi)] S I J r Q :=
  E218 hL (r219 hL h g hl hh (fun e => K218_6 hL (r222t hL hn hs h g (fun I' J' f1 f2 f3 => K218_12 (hT e I' J' f1 f2 f3)))) (fun e => K218_6 hL (E222 hL (no (fm_b (by omega) sN_le).nle (K218_12 (hF e))))))
theorem r224b {d : Nat} {Q : XQ} {S : XS} {I : XI} {J : XJ} {r : XR} {x y z : Int32} (hL : LAY S r) (g : BM I) (hQ : Q (some (.int (nI 0))) S I J r) : xcall (d + 3) 224 [.ref 65, .int z, .int x, .int y] S I J r Q :=
  E224 hL (r222b hL g (K224_5 hL (r218b hL g (K224_11 hQ))))
theorem r224t {d : Nat} {Q : XQ} {S : XS} {I : XI} {J : XJ} {r : XR} {n s lo hi : Nat} {F : Nat → Int32} (hL : LAY S r) (hn : n ≤ 900) (hs : s ≤ n) (h : RM I J n F s) (g : GM I) (hl : lo < 1000000) (hh : hi < 1000000)
    (hT : sN F n (nxt F n s) lo hi = 0 → ∀ I' J', mk I I' → jk 65 19 J J' → RM I' J' n F (nxt F n (nxt F n s)) → Q (some (.int (nI (nm F n (nxt F n s))))) S I' J' r) (hF : sN F n (nxt F n s) lo hi ≠ 0 → ∀ I' J', mk I I' → jk 65 19 J J' → RM I' J' n F (nxt F n s) → Q (some (.int (nI 0))) S (fm I' (sN F n (nxt F n s) lo hi) (nxt F n s)) J' r) : xcall (d + 5) 224 [.ref 65, .int (nI 1), .int (nI lo), .int (nI hi)] S I J r Q :=
  E224 hL (r222t hL hn hs h g (fun I1 J1 f1 f2 f3 => K224_5 hL (r218 hL hn (nxt_le hs).2.1 f3 (g.k f1) hl hh (fun e I' J' g1 g2 g3 => K224_11 (hT e I' J' (f1.t g1) (f2.t g2) g3)) (fun e => K224_11 (hF e I1 J1 f1 f2 f3)))))
theorem r224f {d : Nat} {Q : XQ} {S : XS} {I : XI} {J : XJ} {r : XR} {n s : Nat} {F : Nat → Int32} {x y : Int32} (hL : LAY S r) (h : RM I J n F s) (g : GM I) (hQ : Q (some (.int (nI 0))) S (fm I (am F n s) s) J r) : xcall (d + 5) 224 [.ref 65, .int (nI 0), .int x, .int y] S I J r Q :=
  E224 hL (r222f hL h g (K224_5 hL (xcall_imp (by omega) (r218b (d := d) hL (fm_b am_le.1 am_le.2) (K224_11 (d := d + 4) hQ)) (fun _ _ _ _ _ h => h))))
theorem r247b {d : Nat} {Q : XQ} {S : XS} {I : XI} {J : XJ} {r : XR} {x : Int32} (hL : LAY S r) (g : BM I) (hQ : Q (some (.int (nI 0))) S I J r) : xcall (d + 1) 247 [.ref 65, .int x] S I J r Q := E247 hL (yes g.lt hQ)
theorem r247f {d : Nat} {Q : XQ} {S : XS} {I : XI} {J : XJ} {r : XR} (hL : LAY S r) (hQ : Q (some (.int (nI 0))) S I J r) : xcall (d + 1) 247 [.ref 65, .int (nI 0)] S I J r Q := E247 hL ⟨fun _ => hQ, fun _ => nno rfl hQ⟩
theorem r247t {d : Nat} {Q : XQ} {S : XS} {I : XI} {J : XJ} {r : XR} {n s : Nat} {F : Nat → Int32} (hL : LAY S r) (hn : n ≤ 900) (hs : s ≤ n) (h : RM I J n F s) (g : GM I)
    (hQ : ∀ I' J', mk I I' → jk 65 19 J J' → RM I' J' n F (nxt F n s) → Q (some (.int (nI 1))) S I' J' r) : xcall (d + 3) 247 [.ref 65, .int (nI 1)] S I J r Q :=
  E247 hL (no g.nlt (yes (by decide) (r207 hL hn hs h (fun I' J' f1 f2 f3 => K247_17 (hQ I' J' f1 f2 f3)))))
theorem r251 {d : Nat} {Q : XQ} {S : XS} {I : XI} {J : XJ} {r : XR} {n s : Nat} {F : Nat → Int32} (hL : LAY S r) (h : RM I J n F s) (hQ : Q (some (.int (b01 (isC F n s)))) S I J r) : xcall (d + 1) 251 [.ref 65, .int (nI 59)] S I J r Q := by
  refine E251 hL ?_
  rw [h.2.2.2.1, nI_eqI (by have := kd_le (F := F) (n := n) (s := s); omega) (by decide)]
  by_cases q : kd F n s = 3
  · refine nno q ?_
    rw [h.2.2.2.2.2.2 q]
    by_cases q2 : F s = nI 59
    · rw [b01_t (isC_t.mpr ⟨q, q2⟩)] at hQ; exact nno q2 hQ
    · rw [b01_f (Bool.eq_false_iff.mpr (fun h => q2 (isC_t.mp h).2))] at hQ; exact yes q2 hQ
  · rw [b01_f (Bool.eq_false_iff.mpr (fun h => q (isC_t.mp h).1))] at hQ; exact yes q hQ
/-! a name's number -/
def nmf (W : Nat → Int64) (c : Int64) : Nat → Nat → Option Nat
  | 0, _ => none
  | j + 1, i => if W i = c then some i else nmf W c j (i + 1)
theorem nmf_lt {W : Nat → Int64} {c : Int64} {k : Nat} : ∀ j i, nmf W c j i = some k → i ≤ k ∧ k < i + j
  | 0, _, h => by cases h
  | j + 1, i, h => by
    rw [nmf] at h
    split at h
    · cases h; omega
    · have := nmf_lt j (i + 1) h; omega
theorem k65 {d : Nat} {Q : XQ} {S : XS} {I : XI} {J : XJ} {r : XR} {cu su a : Nat} {c : Int64} {B : Nat → Int32} {W : Nat → Int64} (h0 : LY0 S r a) (h : CR I J a B W) : ∀ j i w2, i + j = bn B 3 → Q (some (.int (gI (nmf W c j i)))) S I J r → xrun z0 (xcall d) Q 65 2 [.ref a, .long c, w2, .int (nI i)] [] S I J r cu su
  | 0, i, w2, hi, hQ => by
    have hb := h.wf.c.2
    exact K65_2 h0 (yes (by rw [h.n7, nI_leI (by omega) (by omega)]; omega) hQ)
  | j + 1, i, w2, hi, hQ => by
    have hb := h.wf.c.2
    have ih := fun w2 => k65 (Q := Q) (c := c) (d := d) (cu := cu) (su := su) h0 h j (i + 1) w2 (by omega)
    rw [nmf] at hQ
    refine K65_2 h0 (no (by rw [h.n7, nI_leI (by omega) (by omega)]; omega) ⟨vp_in_nI (by omega) (by decide), ?_⟩)
    rw [nI_clamp (by omega), h.nm (by omega), cmp_e, nI_add]
    by_cases q : W i = c
    · rw [if_pos q] at hQ; exact nno q hQ
    · rw [if_neg q] at hQ; exact yes q (ih _ hQ)
theorem c65 {d : Nat} {Q : XQ} {S : XS} {I : XI} {J : XJ} {r : XR} {a : Nat} {c : Int64} {B : Nat → Int32} {W : Nat → Int64} (h0 : LY0 S r a) (h : CR I J a B W) (hQ : Q (some (.int (gI (nmf W c (bn B 3) 0)))) S I J r) : xcall (d + 1) 65 [.ref a, .long c] S I J r Q := E65 (k65 h0 h (bn B 3) 0 _ (by omega) hQ)
theorem k245 {d : Nat} {Q : XQ} {S : XS} {I : XI} {J : XJ} {r : XR} {cu su b N : Nat} (hL : LAY S r) (hb : b ≤ 4) (hN : N ≤ 6) (h3 : I 70 (345 * b + 3) = nI N) : ∀ j i, i + j = N → Q (some (.int (gI (nmf (fun k => J 72 (6 * b + k)) (J 65 19) j i)))) S I J r → xrun z0 (xcall d) Q 245 2 [.ref 65, .int (nI b), .int (nI i)] [] S I J r cu su
  | 0, i, hi, hQ => by
    refine K245_2 hL ?_
    rw [pk_mul, nI_add, nI_clamp (by omega), h3]
    exact ⟨vp_in_nI (by omega) (by decide), yes (by rw [nI_leI (by omega) (by omega)]; omega) hQ⟩
  | j + 1, i, hi, hQ => by
    have ih := k245 (Q := Q) (J := J) (d := d) (cu := cu) (su := su) hL hb hN h3 j (i + 1) (by omega)
    rw [nmf] at hQ
    refine K245_2 hL ?_
    simp only [pk_mul, nI_add]
    rw [nI_clamp (by omega), nI_clamp (by omega), h3, cmp_e]
    refine ⟨vp_in_nI (by omega) (by decide), no (by rw [nI_leI (by omega) (by omega)]; omega) ⟨vp_in_nI (by omega) (by decide), ?_⟩⟩
    by_cases q : J 72 (6 * b + i) = J 65 19
    · rw [if_pos q] at hQ; exact nno q hQ
    · rw [if_neg q] at hQ; exact yes q (ih hQ)
theorem r245 {d : Nat} {Q : XQ} {S : XS} {I : XI} {J : XJ} {r : XR} {b N : Nat} (hL : LAY S r) (hb : b ≤ 4) (hN : N ≤ 6) (h3 : I 70 (345 * b + 3) = nI N) (hQ : Q (some (.int (gI (nmf (fun k => J 72 (6 * b + k)) (J 65 19) N 0)))) S I J r) : xcall (d + 1) 245 [.ref 65, .int (nI b)] S I J r Q := E245 (k245 hL hb hN h3 N 0 (by omega) hQ)
