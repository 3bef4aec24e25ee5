/-! what there is -/
def q98 (B : Nat → Int32) (x : Int32) : Nat × Int32 := if okx x 9 then (0, if cl x < 7 then B (cl x) else if cl x = 7 then vset B else rset B) else (5, -1)
theorem i_num {x : Int32} {n : Nat} (h : okx x n) : ∃ k, k < n ∧ x = nI k ∧ cl x = k := okx_is h
theorem c98 {d : Nat} {Q : XQ} {S : XS} {I : XI} {J : XJ} {r : XR} {x : Int32} {B : Nat → Int32} {W : Nat → Int64} (hL : LAY S r) (c : CR I J 28 B W) (hQ : QC Q S I J r (q98 B x).1 (q98 B x).2) : xcall (d + 2) 98 [.ref 0, .int x] S I J r Q := by
  obtain ⟨b0, b1, b4, b2, b3, bv, b5, b6⟩ := c.2.1
  refine E98 hL ?_
  by_cases h : okx x 9
  · rw [q98, if_pos h] at hQ
    obtain ⟨k, k1, k2, k3⟩ := i_num h
    rw [k3] at hQ
    subst k2
    have hk : k = 0 ∨ k = 1 ∨ k = 2 ∨ k = 3 ∨ k = 4 ∨ k = 5 ∨ k = 6 ∨ k = 7 ∨ k = 8 := by omega
    have hq := hQ.e (ix.r I)
    rcases hk with rfl | rfl | rfl | rfl | rfl | rfl | rfl | rfl | rfl
    · exact yes rfl (E83 hL (K98_63 (by rw [b0]; exact hq)))
    · exact no (by decide) (yes rfl (E83 hL (K98_75 (by rw [b1]; exact hq))))
    · exact no (by decide) (no (by decide) (yes rfl (E83 hL (K98_87 (by rw [b2]; exact hq)))))
    · exact no (by decide) (no (by decide) (no (by decide) (yes rfl (E83 hL (K98_99 (by rw [b3]; exact hq))))))
    · exact no (by decide) (no (by decide) (no (by decide) (no (by decide) (yes rfl (E83 hL (K98_111 (by rw [b4]; exact hq)))))))
    · exact no (by decide) (no (by decide) (no (by decide) (no (by decide) (no (by decide) (yes rfl (E83 hL (K98_123 (by rw [b5]; exact hq))))))))
    · exact no (by decide) (no (by decide) (no (by decide) (no (by decide) (no (by decide) (no (by decide) (yes rfl (E83 hL (K98_135 (by rw [b6]; exact hq)))))))))
    · exact no (by decide) (no (by decide) (no (by decide) (no (by decide) (no (by decide) (no (by decide) (no (by decide) (yes rfl (E83 hL (K98_147 (by rw [bv]; exact hq))))))))))
    · exact no (by decide) (no (by decide) (no (by decide) (no (by decide) (no (by decide) (no (by decide) (no (by decide) (no (by decide) (yes rfl (c99 (lay0_28 hL) c (K98_156 hL (E83 hL (K98_159 hq))))))))))))
  · rw [q98, if_neg h] at hQ
    have hne : ∀ k, k < 9 → ¬ x = nI k := fun k hk e => h (by rw [e]; exact okx_nI hk (by decide))
    exact no (hne 0 (by decide)) (no (hne 1 (by decide)) (no (hne 2 (by decide)) (no (hne 3 (by decide)) (no (hne 4 (by decide)) (no (hne 5 (by decide)) (no (hne 6 (by decide)) (no (hne 7 (by decide)) (no (hne 8 (by decide)) (E31 hL (K98_165 (hQ.e (ix.r I))))))))))))
theorem r260 {d : Nat} {Q : XQ} {S : XS} {I : XI} {J : XJ} {r : XR} {x : Int32} (hL : LAY S r) (w : WF (I 70)) (hQ : QM Q S I J r (q98 (I 70) x).1 (q98 (I 70) x).2) : xcall (d + 3) 260 [.ref 65, .int x] S I J r Q := by
  refine E260 hL (c221 (fun h1 h2 => ?_) (fun h => ?_))
  · rw [i_l, i_lN (by decide)] at h1 h2
    have h : okx x 9 := ⟨h1, by omega⟩
    rw [q98, if_pos h] at hQ
    obtain ⟨k, k1, k2, k3⟩ := i_num h
    rw [k3] at hQ
    subst k2
    refine K260_19 hL (yes (by decide) ?_)
    by_cases q : k < 7
    · rw [if_pos q] at hQ
      refine no (by rw [nI_leI (by decide) (by omega)]; omega) ⟨vp_in_nI (by omega) (by decide), K260_60 ?_⟩
      rw [nI_clamp (by omega)]
      exact hQ.z
    · rw [if_neg q] at hQ
      refine yes (by rw [nI_leI (by decide) (by omega)]; omega) ?_
      by_cases q2 : k = 7
      · rw [if_pos q2] at hQ
        exact nno (by rw [q2]) (r262 hL w (K260_53 (K260_60 hQ.z)))
      · rw [if_neg q2] at hQ
        exact yes (by rw [nI_eqI (by omega) (by decide)]; exact q2) (r263 hL w (K260_60 hQ.z))
  · rw [i_l, i_lN (by decide), i_lN (by decide)] at h
    rw [q98, if_neg (fun q => h (by omega))] at hQ
    exact K260_19 hL (nno rfl (E261 hL (K260_27 hQ.r)))
def q100 (B : Nat → Int32) (x y : Int32) : Nat × Int32 := if okx x (bn B 2) then (if okx y 2 then (0, B (7 + 15 * cl y + cl x)) else (5, -1)) else (2, -1)
theorem c100 {d : Nat} {Q : XQ} {S : XS} {I : XI} {J : XJ} {r : XR} {x y : Int32} {B : Nat → Int32} {W : Nat → Int64} (hL : LAY S r) (c : CR I J 28 B W) (hQ : QC Q S I J r (q100 B x y).1 (q100 B x y).2) : xcall (d + 2) 100 [.ref 0, .int x, .int y] S I J r Q := by
  have hb := c.wf.r.2
  refine E100 hL ?_
  rw [c.n3]
  refine c101 (fun h1 h2 => ?_) (fun h => ?_)
  · rw [i_m1n (by omega)] at h2
    rw [i_toI (by decide)] at h1
    have h : okx x (bn B 2) := ⟨h1, by omega⟩
    rw [q100, if_pos h] at hQ
    obtain ⟨k, k1, k2, k3⟩ := i_num h
    rw [k3] at hQ
    subst k2
    refine K100_14 hL (yes (by decide) ?_)
    by_cases q : okx y 2
    · rw [if_pos q] at hQ
      obtain ⟨m, h4, h5, h6⟩ := i_num q
      rw [h6] at hQ
      subst h5
      have hm : m = 0 ∨ m = 1 := by omega
      rcases hm with rfl | rfl
      · refine nno rfl ⟨vp_in_nI (by omega) (by decide), ?_⟩
        rw [nI_clamp (by omega)]
        exact E83 hL (K100_40 (by rw [(c.2.2.1 k k1).1]; exact hQ.e (ix.r I)))
      · refine yes (by decide) (nno rfl ⟨vp_in_nI (by omega) (by decide), ?_⟩)
        rw [nI_clamp (by omega)]
        exact E83 hL (K100_59 (K100_67 (by rw [(c.2.2.1 k k1).2]; exact hQ.e (ix.r I))))
    · rw [if_neg q] at hQ
      have hne : ∀ k, k < 2 → ¬ y = nI k := fun k hk e => q (by rw [e]; exact okx_nI hk (by decide))
      exact yes (hne 0 (by decide)) (yes (hne 1 (by decide)) (E31 hL (K100_67 (hQ.e (ix.r I)))))
  · rw [i_m1n (by omega), i_toI (by decide)] at h
    rw [q100, if_neg (fun q => h ⟨q.1, by have := q.2; omega⟩)] at hQ
    exact K100_14 hL (nno rfl (E31 hL (K100_22 (hQ.e (ix.r I)))))
theorem r264 {d : Nat} {Q : XQ} {S : XS} {I : XI} {J : XJ} {r : XR} {x y : Int32} (hL : LAY S r) (w : WF (I 70)) (hQ : QM Q S I J r (q100 (I 70) x y).1 (q100 (I 70) x y).2) : xcall (d + 3) 264 [.ref 65, .int x, .int y] S I J r Q := by
  have hb := w.r.2
  refine E264 hL (r265 hL w (fun h1 h2 => K264_15 hL (yes (by decide) (c221 (fun h3 h4 => ?_) (fun h => ?_)))) (fun h => ?_))
  · have h : okx x (bn (I 70) 2) := ⟨h1, h2⟩
    rw [i_l, i_lN (by decide)] at h3 h4
    have h' : okx y 2 := ⟨h3, by omega⟩
    rw [q100, if_pos h, if_pos h'] at hQ
    obtain ⟨k, k1, k2, k3⟩ := i_num h
    obtain ⟨m, h4, h5, h6⟩ := i_num h'
    rw [k3, h6] at hQ
    subst k2 h5
    refine K264_31 hL (no (by decide) ?_)
    rw [pk_mul, nI_add, nI_add]
    refine ⟨vp_in_nI (by omega) (by decide), K264_56 ?_⟩
    rw [nI_clamp (by omega)]
    exact hQ.z
  · rw [i_l, i_lN (by decide), i_lN (by decide)] at h
    rw [q100, if_pos ⟨h1, h2⟩, if_neg (fun q => h (by have := q.1; have := q.2; omega))] at hQ
    exact K264_31 hL (yes rfl (E261 hL (K264_56 hQ.r)))
  · rw [q100, if_neg (by exact h)] at hQ
    exact K264_15 hL (nno rfl (E261 hL (K264_23 hQ.r)))
/-- the rock in a cell: its number; else so many as there are -/
def rkn (B : Nat → Int32) (x : Nat) : Nat := lst (fun q => decide (bn B (7 + q) = x)) (bn B 2)
theorem rkn_y {B : Nat → Int32} (h : WF B) {q x : Nat} (hq : q < bn B 2) (he : bn B (7 + q) = x) : rkn B x = q :=
  lst_is hq (by rw [decide_eq_true_eq]; exact he) (fun j hj => by
    rw [decide_eq_false_iff_not]
    intro h2
    have := h.nd (r := j) (s := q) (by omega) hq (by omega)
    omega)
theorem rkn_n {B : Nat → Int32} {x : Nat} (h : ∀ q, q < bn B 2 → bn B (7 + q) ≠ x) : rkn B x = bn B 2 := by
  have h1 := lst_le (fun q => decide (bn B (7 + q) = x)) (bn B 2)
  rcases Nat.lt_or_ge (lst (fun q => decide (bn B (7 + q) = x)) (bn B 2)) (bn B 2) with q | q
  · have h2 := lst_yes q
    rw [decide_eq_true_eq] at h2
    exact absurd h2 (h _ q)
  · unfold rkn; omega
def q102 (B : Nat → Int32) (x : Int32) : Nat × Int32 := if okx x (ce B) then (if rkn B (cl x) < bn B 2 then (0, nI (bn B (22 + rkn B (cl x)))) else (8, -1)) else (2, -1)
theorem c102 {d : Nat} {Q : XQ} {S : XS} {I : XI} {J : XJ} {r : XR} {x : Int32} {B : Nat → Int32} {W : Nat → Int64} (hL : LAY S r) (c : CR I J 28 B W) (hQ : QC Q S I J r (q102 B x).1 (q102 B x).2) : xcall (d + 2) 102 [.ref 0, .int x] S I J r Q := by
  have hN := ce_le c.wf
  refine E102 hL (c76 (lay0_28 hL) c (fun k h1 h2 => ?_) (fun h => ?_))
  · rw [q102, if_pos (by rw [h2]; exact okx_nI h1 (by omega))] at hQ
    subst h2
    have hc : cl (nI k) = k := nI_clamp (by omega)
    rw [hc] at hQ
    refine K102_8 hL (yes (by decide) (c60 (lay0_28 hL) c (by omega) (fun q hq he => ?_) (fun hn => ?_)))
    · rw [rkn_y c.wf hq he, if_pos hq] at hQ
      have := (c.wf.dp hq).2
      exact K102_25 hL (yes (nI_m1 (by omega)) (E83 hL (K102_45 (hQ.e (ix.r I)))))
    · rw [rkn_n hn, if_neg (Nat.lt_irrefl _)] at hQ
      exact K102_25 hL (nno rfl (E31 hL (K102_37 (K102_45 (hQ.e (ix.r I))))))
  · rw [q102, if_neg h] at hQ
    exact K102_8 hL (nno rfl (E31 hL (K102_16 (hQ.e (ix.r I)))))
theorem r266 {d : Nat} {Q : XQ} {S : XS} {I : XI} {J : XJ} {r : XR} {x : Int32} (hL : LAY S r) (w : WF (I 70)) (hQ : QM Q S I J r (q102 (I 70) x).1 (q102 (I 70) x).2) : xcall (d + 3) 266 [.ref 65, .int x] S I J r Q := by
  have hN := ce_le w
  have hb := w.r.2
  refine E266 hL (r267 hL w (fun h1 h2 => ?_) (fun h => ?_))
  · have h : okx x (ce (I 70)) := ⟨h1, h2⟩
    rw [q102, if_pos h] at hQ
    obtain ⟨k, k1, k2, k3⟩ := i_num h
    rw [k3] at hQ
    subst k2
    refine K266_15 hL (yes (by decide) (r229 (b := 0) (B := I 70) hL (by decide) (hB0 _) w (by omega) (fun q hq he => ?_) (fun hn => ?_)))
    · rw [rkn_y w hq he, if_pos hq] at hQ
      refine K266_30 hL (yes (nI_pos' (by omega)) ?_)
      rw [nI_add]
      refine ⟨vp_in_nI (by omega) (by decide), ?_⟩
      rw [nI_clamp (by omega)]
      rw [← (w.dp hq).1] at hQ
      exact hQ.z
    · rw [rkn_n hn, if_neg (Nat.lt_irrefl _)] at hQ
      exact K266_30 hL (no (by decide) (E261 hL (K266_41 hQ.r)))
  · rw [q102, if_neg (by exact h)] at hQ
    exact K266_15 hL (nno rfl (E261 hL (K266_23 hQ.r)))
def q103 (B : Nat → Int32) (x y : Int32) : Nat × Int32 := if okx x (bn B 3) then (if okx y 7 then (0, if cl y = 6 then pat B (cl x) else B (37 + 6 * cl y + cl x)) else (5, -1)) else (2, -1)
theorem c103 {d : Nat} {Q : XQ} {S : XS} {I : XI} {J : XJ} {r : XR} {x y : Int32} {B : Nat → Int32} {W : Nat → Int64} (hL : LAY S r) (c : CR I J 28 B W) (hQ : QC Q S I J r (q103 B x y).1 (q103 B x y).2) : xcall (d + 2) 103 [.ref 0, .int x, .int y] S I J r Q := by
  have hb := c.wf.c.2
  refine E103 hL (c72 (lay0_28 hL) c.n7 (by omega) (fun k h1 h2 => ?_) (fun h => ?_))
  · rw [q103, if_pos (by rw [h2]; exact okx_nI h1 (by omega))] at hQ
    subst h2
    have hc : cl (nI k) = k := nI_clamp (by omega)
    rw [hc] at hQ
    obtain ⟨_, b5, b6, b7, b8, b9, b10⟩ := c.2.2.2.2 k h1
    have v : vp_in (nI k) 6 := vp_in_nI (by omega) (by decide)
    have ek : (nI k).toNatClampNeg = k := hc
    refine K103_8 hL (yes (by decide) ?_)
    rw [ek]
    by_cases q : okx y 7
    · rw [if_pos q] at hQ
      obtain ⟨m, h4, h5, h6⟩ := i_num q
      rw [h6] at hQ
      subst h5
      have hm : m = 0 ∨ m = 1 ∨ m = 2 ∨ m = 3 ∨ m = 4 ∨ m = 5 ∨ m = 6 := by omega
      have hq := hQ.e (ix.r I)
      rcases hm with rfl | rfl | rfl | rfl | rfl | rfl | rfl
      · exact yes rfl ⟨v, E83 hL (K103_73 (by rw [b5]; exact hq))⟩
      · exact no (by decide) (yes rfl ⟨v, E83 hL (K103_87 (by rw [b6]; exact hq))⟩)
      · exact no (by decide) (no (by decide) (yes rfl ⟨v, E83 hL (K103_101 (by rw [b7]; exact hq))⟩))
      · exact no (by decide) (no (by decide) (no (by decide) (yes rfl ⟨v, E83 hL (K103_115 (by rw [b9]; exact hq))⟩)))
      · refine no (by decide) (no (by decide) (no (by decide) (no (by decide) (yes rfl (c74 (lay0_28 hL) c h1 (fun e => ?_) (fun e => ?_))))))
        · rw [show 37 + 6 * 4 + k = 61 + k by omega, e] at hq
          exact K103_125 hL (yes rfl (E83 hL (K103_136 hq)))
        · rw [show 37 + 6 * 4 + k = 61 + k by omega, e] at hq
          exact K103_125 hL (no (by decide) (E83 hL (K103_136 hq)))
      · exact no (by decide) (no (by decide) (no (by decide) (no (by decide) (no (by decide) (yes rfl ⟨v, E83 hL (K103_150 (by rw [b10]; exact hq))⟩)))))
      · exact no (by decide) (no (by decide) (no (by decide) (no (by decide) (no (by decide) (no (by decide) (yes rfl ⟨v, E83 hL (K103_164 (by rw [b8]; exact hq))⟩))))))
    · rw [if_neg q] at hQ
      have hne : ∀ k, k < 7 → ¬ y = nI k := fun k hk e => q (by rw [e]; exact okx_nI hk (by decide))
      exact no (hne 0 (by decide)) (no (hne 1 (by decide)) (no (hne 2 (by decide)) (no (hne 3 (by decide)) (no (hne 4 (by decide)) (no (hne 5 (by decide)) (no (hne 6 (by decide)) (E31 hL (K103_170 (hQ.e (ix.r I))))))))))
  · rw [q103, if_neg h] at hQ
    exact K103_8 hL (nno rfl (E31 hL (K103_16 (hQ.e (ix.r I)))))
theorem r268 {d : Nat} {Q : XQ} {S : XS} {I : XI} {J : XJ} {r : XR} {x y : Int32} (hL : LAY S r) (w : WF (I 70)) (hQ : QM Q S I J r (q103 (I 70) x y).1 (q103 (I 70) x y).2) : xcall (d + 4) 268 [.ref 65, .int x, .int y] S I J r Q := by
  have hb := w.c.2
  refine E268 hL (r269 hL w (fun h1 h2 => K268_15 hL (yes (by decide) (c221 (fun h3 h4 => ?_) (fun h => ?_)))) (fun h => ?_))
  · have h : okx x (bn (I 70) 3) := ⟨h1, h2⟩
    rw [i_l, i_lN (by decide)] at h3 h4
    have h' : okx y 7 := ⟨h3, by omega⟩
    rw [q103, if_pos h, if_pos h'] at hQ
    obtain ⟨k, k1, k2, k3⟩ := i_num h
    obtain ⟨m, h4, h5, h6⟩ := i_num h'
    rw [k3, h6] at hQ
    subst k2 h5
    refine K268_33 hL (yes (by decide) ?_)
    by_cases q : m = 6
    · rw [if_pos q] at hQ
      exact nno (by rw [q]) (r270 hL w k1 (K268_53 hQ.z))
    · rw [if_neg q] at hQ
      refine yes (by rw [nI_eqI (by omega) (by decide)]; exact q) ?_
      rw [pk_mul, nI_add, nI_add]
      refine ⟨vp_in_nI (by omega) (by decide), ?_⟩
      rw [nI_clamp (by omega)]
      exact hQ.z
  · rw [i_l, i_lN (by decide), i_lN (by decide)] at h
    rw [q103, if_pos ⟨h1, h2⟩, if_neg (fun q => h (by have := q.1; have := q.2; omega))] at hQ
    exact K268_33 hL (nno rfl (E261 hL (K268_41 hQ.r)))
  · rw [q103, if_neg (by exact h)] at hQ
    exact K268_15 hL (nno rfl (E261 hL (K268_23 hQ.r)))
def q104 (B : Nat → Int32) (x : Int32) : Nat × Int32 := if okx x (bn B 3) then (0, shown B (cl x)) else (2, -1)
theorem c104 {d : Nat} {Q : XQ} {S : XS} {I : XI} {J : XJ} {r : XR} {x : Int32} {B : Nat → Int32} {W : Nat → Int64} (hL : LAY S r) (c : CR I J 28 B W) (hQ : QC Q S I J r (q104 B x).1 (q104 B x).2) : xcall (d + 4) 104 [.ref 0, .int x] S I J r Q := by
  have hb := c.wf.c.2
  refine E104 hL (c72 (lay0_28 hL) c.n7 (by omega) (fun k h1 h2 => ?_) (fun h => ?_))
  · rw [q104, if_pos (by rw [h2]; exact okx_nI h1 (by omega))] at hQ
    subst h2
    have hc : cl (nI k) = k := nI_clamp (by omega)
    rw [hc] at hQ
    exact K104_8 hL (no (by decide) (c105 (lay0_28 hL) c h1 (K104_20 hL (E83 hL (K104_23 (K104_31 (hQ.e (ix.r I))))))))
  · rw [q104, if_neg h] at hQ
    exact K104_8 hL (yes rfl (E31 hL (K104_31 (hQ.e (ix.r I)))))
theorem r271 {d : Nat} {Q : XQ} {S : XS} {I : XI} {J : XJ} {r : XR} {x : Int32} (hL : LAY S r) (w : WF (I 70)) (hQ : QM Q S I J r (q104 (I 70) x).1 (q104 (I 70) x).2) : xcall (d + 4) 271 [.ref 65, .int x] S I J r Q := by
  have hb := w.c.2
  refine E271 hL (r269 hL w (fun h1 h2 => ?_) (fun h => ?_))
  · have h : okx x (bn (I 70) 3) := ⟨h1, h2⟩
    rw [q104, if_pos h] at hQ
    obtain ⟨k, k1, k2, k3⟩ := i_num h
    rw [k3] at hQ
    subst k2
    exact K271_15 hL (no (by decide) (r272 hL w k1 (K271_23 (K271_31 hQ.z))))
  · rw [q104, if_neg (by exact h)] at hQ
    exact K271_15 hL (yes rfl (E261 hL (K271_31 hQ.r)))
