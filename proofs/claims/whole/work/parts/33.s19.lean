/-! what is done, as calls -/
def ixc (I I' : XI) : Prop := ∀ q i, scr q i = false → (q < 28 ∨ 38 < q) → I' q i = I q i
def ixm (I I' : XI) : Prop := ∀ q i, scr q i = false → q ≠ 70 → I' q i = I q i
theorem ixc.s {I I' : XI} (h : ixc I I') {q i : Nat} {v : Int32} (hs : scr q i = true) : ixc I (up2 I' q i v) := fun p j hp hq => by
  unfold up2
  split
  · rename_i e; subst e
    split
    · rename_i e; subst e; rw [hp] at hs; cases hs
    · exact h _ _ hp hq
  · exact h _ _ hp hq
theorem ixm.s {I I' : XI} (h : ixm I I') {q i : Nat} {v : Int32} (hs : scr q i = true) : ixm I (up2 I' q i v) := fun p j hp hq => by
  unfold up2
  split
  · rename_i e; subst e
    split
    · rename_i e; subst e; rw [hp] at hs; cases hs
    · exact h _ _ hp hq
  · exact h _ _ hp hq
theorem ix.c {I I' : XI} (h : ix I I') : ixc I I' := fun q i hs _ => h q i hs
theorem ix.m {I I' : XI} (h : ix I I') : ixm I I' := fun q i hs _ => h q i hs
theorem frc.c {I I' : XI} (h : frc 28 I I') : ixc I I' := fun q i _ hq => by rw [h q (by omega)]
theorem f70.m {I I' : XI} (h : f70 I I') : ixm I I' := fun q i _ hq => by rw [h q hq]
theorem ixc.t {I I' I2 : XI} (h : ixc I I') (h2 : ixc I' I2) : ixc I I2 := fun q i hq hs => (h2 q i hq hs).trans (h q i hq hs)
theorem ixm.t {I I' I2 : XI} (h : ixm I I') (h2 : ixm I' I2) : ixm I I2 := fun q i hq hs => (h2 q i hq hs).trans (h q i hq hs)
def AC (Q : XQ) (S : XS) (I : XI) (J : XJ) (r : XR) (W : Nat → Int64) (s : Nat) (v : Int32) (B' : Nat → Int32) : Prop := ∀ I', CR I' J 28 B' W → ixc I I' → I' 0 13 = nI s → Q (some (.int v)) S I' J r
def AM (Q : XQ) (S : XS) (I : XI) (J : XJ) (r : XR) (s : Nat) (v : Int32) (B' : Nat → Int32) : Prop := ∀ I', I' 70 = B' → ixm I I' → I' 0 13 = I 0 13 → I' 65 0 = nI s → Q (some (.int v)) S I' J r
theorem up0_cr {I : XI} {J : XJ} {B : Nat → Int32} {W : Nat → Int64} {i : Nat} {v : Int32} (c : CR I J 28 B W) : CR (up2 I 0 i v) J 28 B W := c.fr (fun q h1 _ => up_o (by omega))
theorem AC.e {Q : XQ} {S : XS} {I I1 : XI} {J : XJ} {r : XR} {W : Nat → Int64} {s : Nat} {v : Int32} {B' : Nat → Int32} (h : AC Q S I J r W s v B') (c : CR I1 J 28 B' W) (h2 : ixc I I1) : Q (some (.int v)) S (up2 I1 0 13 (nI s)) J r := h _ (up0_cr c) (h2.s rfl) up_e
theorem AM.e {Q : XQ} {S : XS} {I I1 : XI} {J : XJ} {r : XR} {s : Nat} {v : Int32} {B' : Nat → Int32} (h : AM Q S I J r s v B') (c : I1 70 = B') (h2 : ixm I I1) (h3 : I1 0 13 = I 0 13) : Q (some (.int v)) S (up2 I1 65 0 (nI s)) J r := h _ (by rw [up_o (by decide)]; exact c) (h2.s rfl) (by rw [up_o (by decide)]; exact h3) up_e
theorem m2.m (I : XI) : ixm I (m2 I) := (m2.ix I).m
theorem AM.g {Q : XQ} {S : XS} {I I1 : XI} {J : XJ} {r : XR} {v : Int32} {B' : Nat → Int32} (h : AM Q S I J r 0 v B') (c : I1 70 = B') (g : f70 (m2 I) I1) : Q (some (.int v)) S I1 J r := h _ c ((m2.m I).t g.m) (by rw [g 0 (by decide)]; rfl) (by rw [g 65 (by decide)]; rfl)
theorem AM.f {Q : XQ} {S : XS} {I I1 : XI} {J : XJ} {r : XR} {s : Nat} {v : Int32} {B' : Nat → Int32} (h : AM Q S I J r s v B') (c : I1 70 = B') (g : f70 (m2 I) I1) : Q (some (.int v)) S (up2 I1 65 0 (nI s)) J r := h.e c ((m2.m I).t g.m) (by rw [g 0 (by decide)]; rfl)
theorem AM.r {Q : XQ} {S : XS} {I : XI} {J : XJ} {r : XR} {s : Nat} {v : Int32} (h : AM Q S I J r s v (I 70)) : Q (some (.int v)) S (up2 (m2 I) 65 0 (nI s)) J r := h.e rfl (m2.m I) rfl
/-! sun -/
def a108 (B : Nat → Int32) (x y : Int32) : Nat × Int32 × (Nat → Int32) := if okx x (bn B 3) then (if okr y 1 9 then (if (dkB B (cl x) (cl y)).1 = 0 then (9, -1, (dkB B (cl x) (cl y)).2) else (0, (dkB B (cl x) (cl y)).2 (55 + cl x), (dkB B (cl x) (cl y)).2)) else (5, -1, B)) else (2, -1, B)
theorem c108 {d : Nat} {Q : XQ} {S : XS} {I : XI} {J : XJ} {r : XR} {x y : Int32} {B : Nat → Int32} {W : Nat → Int64} (hL : LAY S r) (c : CR I J 28 B W) (hQ : AC Q S I J r W (a108 B x y).1 (a108 B x y).2.1 (a108 B x y).2.2) : xcall (d + 3) 108 [.ref 0, .int x, .int y] S I J r Q := by
  have hb := c.wf.c.2
  unfold a108 at hQ
  refine E108 hL (c72 (lay0_28 hL) c.n7 (by omega) (fun k h1 h2 => ?_) (fun h => ?_))
  · rw [if_pos (by rw [h2]; exact okx_nI h1 (by omega))] at hQ
    refine K108_8 hL (yes (by decide) (c101 (fun h3 h4 => ?_) (fun h => ?_)))
    · have hy : okr y 1 9 := ⟨h3, h4⟩
      rw [if_pos hy] at hQ
      obtain ⟨p1, p2, p3⟩ := okr_cl (lo := 1) (hi := 9) hy (by decide)
      generalize cl y = m at *
      subst h2 p3
      rw [cl_nI (by omega)] at hQ
      refine K108_24 hL (yes (by decide) (c109 (lay0_28 hL) c h1 p2 (fun I' g c' => ?_)))
      by_cases e : (dkB B k m).1 = 0
      · rw [if_pos e] at hQ
        exact K108_42 hL (yes e (E31 hL (K108_67 (hQ.e c' g.c))))
      · rw [if_neg e] at hQ
        refine K108_42 hL (no e ⟨vp_in_nI (by omega) (by decide), ?_⟩)
        have h3 : k < bn (dkB B k m).2 3 := by unfold dkB; split; exact h1; exact (by rw [bn_o (by omega)]; exact h1)
        rw [nI_clamp (by omega), (c'.2.2.2.2 k h3).2.2.2.2.2.1]
        exact E83 hL (K108_58 (K108_67 (hQ.e c' g.c)))
    · rw [if_neg (by exact h)] at hQ
      exact K108_24 hL (nno rfl (E31 hL (K108_32 (hQ.e c (ix.r I).c))))
  · rw [if_neg h] at hQ
    exact K108_8 hL (nno rfl (E31 hL (K108_16 (hQ.e c (ix.r I).c))))
theorem r275 {d : Nat} {Q : XQ} {S : XS} {I : XI} {J : XJ} {r : XR} {x y : Int32} (hL : LAY S r) (w : WF (I 70)) (hQ : AM Q S I J r (a108 (I 70) x y).1 (a108 (I 70) x y).2.1 (a108 (I 70) x y).2.2) : xcall (d + 3) 275 [.ref 65, .int x, .int y] S I J r Q := by
  have hb := w.c.2
  unfold a108 at hQ
  refine E275 hL (r269 hL w (fun h1 h2 => K275_15 hL (yes (by decide) (c221 (fun h3 h4 => ?_) (fun h => ?_)))) (fun h => ?_))
  · have hx : okx x (bn (I 70) 3) := ⟨h1, h2⟩
    rw [i_l] at h3 h4
    have hy : okr y 1 9 := ⟨h3, h4⟩
    rw [if_pos hx, if_pos hy] at hQ
    obtain ⟨k1, k2⟩ := okx_cl hx
    obtain ⟨p1, p2, p3⟩ := okr_cl (lo := 1) (hi := 9) hy (by decide)
    generalize cl x = k at *
    generalize cl y = m at *
    subst k2 p3
    refine K275_33 hL (yes (by decide) (r276 hL w k1 p2 (fun I' g hI => ?_)))
    have hI' : I' 70 = (dkB (I 70) k m).2 := hI
    show xrun z0 _ Q 275 48 [_, _, _] [.int (dkB (I 70) k m).1] S I' J r _ _
    by_cases e : (dkB (I 70) k m).1 = 0
    · rw [if_pos e] at hQ
      exact K275_48 hL (yes e (E261 hL (K275_69 (hQ.f hI' g))))
    · rw [if_neg e] at hQ
      refine K275_48 hL (no e ?_)
      rw [nI_add, nI_clamp (by omega), hI']
      exact ⟨vp_in_nI (by omega) (by decide), K275_69 (hQ.g hI' g)⟩
  · rw [i_l] at h
    rw [if_pos ⟨h1, h2⟩, if_neg (by exact h)] at hQ
    exact K275_33 hL (nno rfl (E261 hL (K275_41 hQ.r)))
  · rw [if_neg (by exact h)] at hQ
    exact K275_15 hL (nno rfl (E261 hL (K275_23 hQ.r)))
/-! rain -/
def a110 (B : Nat → Int32) (y : Int32) : Nat × Int32 × (Nat → Int32) := if okr y 1 9 then (0, nI (rnB B (cl y) (bn B 3)).1, (rnB B (cl y) (bn B 3)).2) else (5, -1, B)
theorem c110 {d : Nat} {Q : XQ} {S : XS} {I : XI} {J : XJ} {r : XR} {y : Int32} {B : Nat → Int32} {W : Nat → Int64} (hL : LAY S r) (c : CR I J 28 B W) (hQ : AC Q S I J r W (a110 B y).1 (a110 B y).2.1 (a110 B y).2.2) : xcall (d + 3) 110 [.ref 0, .int y] S I J r Q := by
  unfold a110 at hQ
  refine E110 (c101 (fun h3 h4 => ?_) (fun h => ?_))
  · have hy : okr y 1 9 := ⟨h3, h4⟩
    rw [if_pos hy] at hQ
    obtain ⟨p1, p2, p3⟩ := okr_cl (lo := 1) (hi := 9) hy (by decide)
    generalize cl y = m at *
    subst p3
    exact K110_7 hL (no (by decide) (c111 (lay0_28 hL) c p2 (fun I' g c' => K110_19 hL (E83 hL (K110_22 (K110_30 (hQ.e c' g.c)))))))
  · rw [if_neg (by exact h)] at hQ
    exact K110_7 hL (yes rfl (E31 hL (K110_30 (hQ.e c (ix.r I).c))))
theorem r277 {d : Nat} {Q : XQ} {S : XS} {I : XI} {J : XJ} {r : XR} {y : Int32} (hL : LAY S r) (w : WF (I 70)) (hQ : AM Q S I J r (a110 (I 70) y).1 (a110 (I 70) y).2.1 (a110 (I 70) y).2.2) : xcall (d + 3) 277 [.ref 65, .int y] S I J r Q := by
  unfold a110 at hQ
  refine E277 hL (c221 (fun h3 h4 => ?_) (fun h => ?_))
  · rw [i_l] at h3 h4
    have hy : okr y 1 9 := ⟨h3, h4⟩
    rw [if_pos hy] at hQ
    obtain ⟨p1, p2, p3⟩ := okr_cl (lo := 1) (hi := 9) hy (by decide)
    generalize cl y = m at *
    subst p3
    exact K277_19 hL (no (by decide) (r278 hL w p2 (fun I' g hI => K277_27 (K277_35 (hQ.g hI g)))))
  · rw [i_l] at h
    rw [if_neg (by exact h)] at hQ
    exact K277_19 hL (yes rfl (E261 hL (K277_35 hQ.r)))
/-! veil: its second word is 0 or 1 -/
theorem st_1 {s : Nat} (h : s ≠ 0) (hs : s < 100) : ¬ nI s = 0 := fun q => h ((nI_eq (by omega) (by decide)).mp q)
def a112 (B : Nat → Int32) (x b : Int32) : Nat × Int32 × (Nat → Int32) := if okx x (bn B 3) then (if (vlB B (cl x) b).1 = 0 then (9, 0, (vlB B (cl x) b).2) else (0, 1, (vlB B (cl x) b).2)) else (2, 0, B)
theorem c112 {d : Nat} {Q : XQ} {S : XS} {I : XI} {J : XJ} {r : XR} {x b : Int32} {B : Nat → Int32} {W : Nat → Int64} (hL : LAY S r) (c : CR I J 28 B W) (hb : b = 0 ∨ b = 1) (hQ : AC Q S I J r W (a112 B x b).1 (a112 B x b).2.1 (a112 B x b).2.2) : xcall (d + 3) 112 [.ref 0, .int x, .int b] S I J r Q := by
  have hc := c.wf.c.2
  unfold a112 at hQ
  refine E112 hL (c72 (lay0_28 hL) c.n7 (by omega) (fun k h1 h2 => ?_) (fun h => ?_))
  · rw [if_pos (by rw [h2]; exact okx_nI h1 (by omega))] at hQ
    subst h2
    rw [cl_nI (by omega)] at hQ
    refine K112_8 hL (yes (by decide) (c73 (lay0_28 hL) c h1 hb (fun I' g c' => ?_)))
    by_cases e : (vlB B k b).1 = 0
    · rw [if_pos e] at hQ
      exact K112_27 hL (yes e (E19 hL (yes (by decide) (K112_39 ⟨Or.inl rfl, hQ.e c' g.c⟩))))
    · rw [if_neg e] at hQ
      exact K112_27 hL (no e (E19 hL (nno rfl (K112_39 ⟨Or.inr rfl, hQ.e c' g.c⟩))))
  · rw [if_neg h] at hQ
    exact K112_8 hL (nno rfl (E19 hL (yes (by decide) (K112_16 ⟨Or.inl rfl, hQ.e c (ix.r I).c⟩))))
theorem r279 {d : Nat} {Q : XQ} {S : XS} {I : XI} {J : XJ} {r : XR} {x b : Int32} (hL : LAY S r) (w : WF (I 70)) (hb : b = 0 ∨ b = 1) (hQ : AM Q S I J r (a112 (I 70) x b).1 (a112 (I 70) x b).2.1 (a112 (I 70) x b).2.2) : xcall (d + 3) 279 [.ref 65, .int x, .int b] S I J r Q := by
  have hc := w.c.2
  unfold a112 at hQ
  refine E279 hL (r269 hL w (fun h1 h2 => K279_15 hL (yes (by decide) ?_)) (fun h => ?_))
  · have hx : okx x (bn (I 70) 3) := ⟨h1, h2⟩
    rw [if_pos hx] at hQ
    obtain ⟨k1, k2⟩ := okx_cl hx
    generalize cl x = k at *
    subst k2
    have hv := vlB_ub (B := I 70) (k := k) (b := b)
    rw [hv.2] at hQ
    have go : xcall (d + 2) 280 [.ref 65, .int (nI 61 + nI k), .int b] S (m2 I) J r (fun v S1 I1 J1 r1 => xrun z0 (xcall (d + 2)) Q 279 41 [.ref 65, .int (nI k), .int b] (v.toList ++ []) S1 I1 J1 r1 0 0) := by
      rw [nI_add]
      refine r280 hL (by omega) (fun I' g hI => ?_)
      have hI' : I' 70 = ub (I 70) (61 + k) b := hI
      show xrun z0 _ Q 279 41 [_, _, _] [.int (if I 70 (61 + k) = b then 0 else 1)] S I' J r _ _
      rw [← hv.1]
      by_cases e : (vlB (I 70) k b).1 = 0
      · rw [if_pos e] at hQ
        exact K279_41 hL (nno e (E195 hL (K279_50 (yes rfl (hQ.f hI' g)))))
      · rw [if_neg e] at hQ
        exact K279_41 hL (yes e (hQ.g hI' g))
    rcases hb with rfl | rfl
    · exact yes rfl go
    · exact no (by decide) go
  · rw [if_neg (by exact h)] at hQ
    exact K279_15 hL (nno rfl (E195 hL (K279_23 ⟨Or.inl rfl, hQ.r⟩)))
/-! ink -/
def a113 (B : Nat → Int32) (x y : Int32) : Nat × Int32 × (Nat → Int32) := if okx x (bn B 3) ∧ okx y (ce B) then ((ikB B (cl x) (cl y)).1, (if (ikB B (cl x) (cl y)).1 = 0 then nI (ctN ((ikB B (cl x) (cl y)).2 (67 + cl x)) 30) else -1), (ikB B (cl x) (cl y)).2) else (2, -1, B)
theorem ikB_c {B : Nat → Int32} {k c : Nat} : (ikB B k c).1 < 10 ∧ bn (ikB B k c).2 3 = bn B 3 := by
  unfold ikB
  split
  · exact ⟨by show 7 < 10; decide, rfl⟩
  · split
    · exact ⟨by show 0 < 10; decide, bn_o (by omega)⟩
    · exact ⟨by show 9 < 10; decide, rfl⟩
theorem c113 {d : Nat} {Q : XQ} {S : XS} {I : XI} {J : XJ} {r : XR} {x y : Int32} {B : Nat → Int32} {W : Nat → Int64} (hL : LAY S r) (c : CR I J 28 B W) (hQ : AC Q S I J r W (a113 B x y).1 (a113 B x y).2.1 (a113 B x y).2.2) : xcall (d + 3) 113 [.ref 0, .int x, .int y] S I J r Q := by
  have hc := c.wf.c.2
  have hN := ce_le c.wf
  unfold a113 at hQ
  refine E113 hL (c72 (lay0_28 hL) c.n7 (by omega) (fun k h1 h2 => K113_8 hL (no (by decide) (c76 (lay0_28 hL) c (fun m h3 h4 => ?_) (fun h => ?_)))) (fun h => ?_))
  · rw [if_pos ⟨by rw [h2]; exact okx_nI h1 (by omega), by rw [h4]; exact okx_nI h3 (by omega)⟩] at hQ
    subst h2 h4
    rw [cl_nI (by omega), cl_nI (by omega)] at hQ
    have hi := ikB_c (B := B) (k := k) (c := m)
    refine K113_19 hL (yes (by decide) (c77 (lay0_28 hL) c h1 h3 (fun I' g c' => K113_37 hL ?_)))
    by_cases e : (ikB B k m).1 = 0
    · rw [if_pos e] at hQ
      dsimp only at hQ
      rw [e] at hQ ⊢
      refine nno rfl ⟨vp_in_nI (by omega) (by decide), ?_⟩
      have hk : k < bn (ikB B k m).2 3 := by rw [hi.2]; exact h1
      have hN' := ce_le c'.wf
      rw [nI_clamp (by omega), c'.ik hk]
      refine c78 (K113_55 hL (E83 hL (K113_58 (K113_66 ?_))))
      rw [ct_in (n := ce (ikB B k m).2) (by omega) (ik_in c'.wf hk)]
      exact hQ.e c' g.c
    · rw [if_neg e] at hQ
      exact yes (st_1 e (by omega)) (E31 hL (K113_66 (hQ.e c' g.c)))
  · rw [if_neg (fun q => h q.2)] at hQ
    exact K113_19 hL (nno rfl (E31 hL (K113_27 (hQ.e c (ix.r I).c))))
  · rw [if_neg (fun q => h q.1)] at hQ
    exact K113_8 hL (yes rfl (E31 hL (K113_27 (hQ.e c (ix.r I).c))))
theorem ikB_7 {B : Nat → Int32} {k c : Nat} : (ikB B k c).1 = 7 ↔ ctN (B (67 + k)) 30 = 6 := by
  unfold ikB
  split
  · rename_i h; exact ⟨fun _ => h, fun _ => rfl⟩
  · rename_i h
    split
    · exact ⟨fun q => absurd q (by show ¬ 0 = 7; decide), fun q => absurd q h⟩
    · exact ⟨fun q => absurd q (by show ¬ 9 = 7; decide), fun q => absurd q h⟩
theorem ikB_9 {B : Nat → Int32} {k c : Nat} (h0 : (ikB B k c).1 ≠ 0) (h7 : (ikB B k c).1 ≠ 7) : (ikB B k c).1 = 9 ∧ (ikB B k c).2 = B := by
  unfold ikB at *
  split at h7
  · exact absurd rfl h7
  · rename_i h
    rw [if_neg h] at h0 ⊢
    split at h0
    · exact absurd rfl h0
    · rename_i h2; rw [if_neg h2]; exact ⟨rfl, rfl⟩
theorem r281 {d : Nat} {Q : XQ} {S : XS} {I : XI} {J : XJ} {r : XR} {x y : Int32} (hL : LAY S r) (w : WF (I 70)) (hQ : AM Q S I J r (a113 (I 70) x y).1 (a113 (I 70) x y).2.1 (a113 (I 70) x y).2.2) : xcall (d + 4) 281 [.ref 65, .int x, .int y] S I J r Q := by
  have hc := w.c.2
  have hN := ce_le w
  unfold a113 at hQ
  refine E281 hL (r269 hL w (fun h1 h2 => K281_15 hL (no (by decide) (r267 hL w (fun h3 h4 => ?_) (fun h => ?_)))) (fun h => ?_))
  · have hx : okx x (bn (I 70) 3) := ⟨h1, h2⟩
    have hy : okx y (ce (I 70)) := ⟨h3, h4⟩
    rw [if_pos ⟨hx, hy⟩] at hQ
    obtain ⟨k1, k2⟩ := okx_cl hx
    obtain ⟨m1, m2'⟩ := okx_cl hy
    generalize cl x = k at *
    generalize cl y = m at *
    subst k2 m2'
    have h6 := (w.ik k1).2
    have h7 := ikB_7 (B := I 70) (k := k) (c := m)
    refine K281_23 hL (yes (by decide) ?_)
    rw [nI_add, nI_clamp (by omega)]
    refine ⟨vp_in_nI (by omega) (by decide), c282 (K281_44 hL ?_)⟩
    show (¬ nI (ctN (I 70 (67 + k)) 30) = nI 6 → _) ∧ (¬ ¬ nI (ctN (I 70 (67 + k)) 30) = nI 6 → _)
    rw [nI_eqI (by omega) (by decide)]
    by_cases q : ctN (I 70 (67 + k)) 30 = 6
    · have e7 := h7.mpr q
      have e2 : (ikB (I 70) k m).2 = I 70 := by unfold ikB; rw [if_pos q]
      rw [e7, e2, if_neg (by decide)] at hQ
      exact nno q (E261 hL (K281_55 hQ.r))
    · refine yes q (r283 hL w k1 m1 (fun I' g hI => ?_))
      have hI' : I' 70 = (ikB (I 70) k m).2 := hI
      show xrun z0 _ Q 281 62 [_, _, _] [.int (if (ikB (I 70) k m).1 = 0 then 1 else 0)] S I' J r _ _
      by_cases e : (ikB (I 70) k m).1 = 0
      · rw [if_pos e] at hQ ⊢
        refine K281_62 hL (no (by decide) ?_)
        rw [nI_add, nI_clamp (by omega), hI']
        refine ⟨vp_in_nI (by omega) (by decide), c282 (K281_77 (K281_86 ?_))⟩
        rw [e] at hQ
        exact hQ.g hI' g
      · rw [if_neg e] at hQ ⊢
        rw [(ikB_9 e (fun q2 => q (h7.mp q2))).1] at hQ
        exact K281_62 hL (yes rfl (E261 hL (K281_86 (hQ.f hI' g))))
  · rw [if_neg (fun q => h q.2)] at hQ
    exact K281_23 hL (nno rfl (E261 hL (K281_31 hQ.r)))
  · rw [if_neg (fun q => h q.1)] at hQ
    exact K281_15 hL (yes rfl (E261 hL (K281_31 hQ.r)))
/-! wash -/
def a114 (B : Nat → Int32) (x : Int32) : Nat × Int32 × (Nat → Int32) := if okx x (bn B 3) then (if ctN (B (67 + cl x)) 30 = 0 then (9, -1, ub B (67 + cl x) 0) else (0, nI (ctN (B (67 + cl x)) 30), ub B (67 + cl x) 0)) else (2, -1, B)
theorem ct_zero {x : Int32} (h : ∀ i, 30 ≤ i → i < 32 → bt x i = false) : ctN x 30 = 0 ↔ x = 0 := by
  constructor
  · intro h0
    have key : ∀ n, ctN x n = 0 → ∀ i, i < n → bt x i = false := by
      intro n
      induction n with
      | zero => intro _ i hi; omega
      | succ n ih =>
        intro h1 i hi
        rw [ctN] at h1
        by_cases e : bt x n = true
        · rw [if_pos e] at h1; omega
        · rw [if_neg e] at h1
          rcases Nat.lt_or_ge i n with q | q
          · exact ih (by omega) i q
          · have : i = n := by omega
            subst this; rw [← Bool.not_eq_true]; exact e
    exact and_z.mpr (fun i hi => by
      rcases Nat.lt_or_ge i 30 with q | q
      · exact key 30 h0 i q
      · exact h i q hi)
  · rintro rfl; exact ct_0 30
theorem c114 {d : Nat} {Q : XQ} {S : XS} {I : XI} {J : XJ} {r : XR} {x : Int32} {B : Nat → Int32} {W : Nat → Int64} (hL : LAY S r) (c : CR I J 28 B W) (hQ : AC Q S I J r W (a114 B x).1 (a114 B x).2.1 (a114 B x).2.2) : xcall (d + 3) 114 [.ref 0, .int x] S I J r Q := by
  have hc := c.wf.c.2
  unfold a114 at hQ
  refine E114 hL (c72 (lay0_28 hL) c.n7 (by omega) (fun k h1 h2 => ?_) (fun h => ?_))
  · rw [if_pos (by rw [h2]; exact okx_nI h1 (by omega))] at hQ
    subst h2
    rw [cl_nI (by omega)] at hQ
    have h6 := (c.wf.ik h1).2
    refine K114_8 hL (yes (by decide) (c115 (lay0_28 hL) c h1 (fun I' g c' => K114_25 hL ?_)))
    by_cases e : ctN (B (67 + k)) 30 = 0
    · rw [if_pos e] at hQ
      exact yes (by rw [e]; decide) (E31 hL (K114_44 (hQ.e c' g.c)))
    · rw [if_neg e] at hQ
      exact no (nI_nle (by omega) (by omega)) (E83 hL (K114_35 (K114_44 (hQ.e c' g.c))))
  · rw [if_neg h] at hQ
    exact K114_8 hL (nno rfl (E31 hL (K114_16 (hQ.e c (ix.r I).c))))
theorem r284 {d : Nat} {Q : XQ} {S : XS} {I : XI} {J : XJ} {r : XR} {x : Int32} (hL : LAY S r) (w : WF (I 70)) (hQ : AM Q S I J r (a114 (I 70) x).1 (a114 (I 70) x).2.1 (a114 (I 70) x).2.2) : xcall (d + 3) 284 [.ref 65, .int x] S I J r Q := by
  have hc := w.c.2
  have hN := ce_le w
  unfold a114 at hQ
  refine E284 hL (r269 hL w (fun h1 h2 => K284_15 hL (yes (by decide) ?_)) (fun h => ?_))
  · have hx : okx x (bn (I 70) 3) := ⟨h1, h2⟩
    rw [if_pos hx] at hQ
    obtain ⟨k1, k2⟩ := okx_cl hx
    generalize cl x = k at *
    subst k2
    have hz := ct_zero (x := I 70 (67 + k)) (fun i h1 h2 => by
      rw [← Bool.not_eq_true]; intro q
      have := ik_in w k1 i h2 q
      omega)
    rw [nI_add, nI_clamp (by omega)]
    refine ⟨vp_in_nI (by omega) (by decide), c282 (K284_36 hL ?_)⟩
    rw [nI_add]
    refine r280 hL (by omega) (fun I' g hI => ?_)
    have hI' : I' 70 = ub (I 70) (67 + k) 0 := hI
    show xrun z0 _ Q 284 46 [_, _, .int (nI (ctN (I 70 (67 + k)) 30))] [.int (if I 70 (67 + k) = 0 then 0 else 1)] S I' J r _ _
    by_cases e : ctN (I 70 (67 + k)) 30 = 0
    · rw [if_pos e] at hQ
      rw [if_pos (hz.mp e)]
      exact K284_46 hL (yes rfl (E261 hL (K284_59 (hQ.f hI' g))))
    · rw [if_neg e] at hQ
      rw [if_neg (fun q => e (hz.mpr q))]
      exact K284_46 hL (no (by decide) (K284_59 (hQ.g hI' g)))
  · rw [if_neg (by exact h)] at hQ
    exact K284_15 hL (nno rfl (E261 hL (K284_23 hQ.r)))
/-! rule -/
def a135 (B : Nat → Int32) (x : Int32) : Nat × Int32 × (Nat → Int32) := if okr x 0 16 then (0, 1, ub B 4 x) else (5, 0, B)
theorem c135 {d : Nat} {Q : XQ} {S : XS} {I : XI} {J : XJ} {r : XR} {x : Int32} {B : Nat → Int32} {W : Nat → Int64} (hL : LAY S r) (c : CR I J 28 B W) (hQ : AC Q S I J r W (a135 B x).1 (a135 B x).2.1 (a135 B x).2.2) : xcall (d + 2) 135 [.ref 0, .int x] S I J r Q := by
  unfold a135 at hQ
  refine E135 (c101 (fun h3 h4 => ?_) (fun h => ?_))
  · have hx : okr x 0 16 := ⟨h3, h4⟩
    rw [if_pos hx] at hQ
    obtain ⟨p1, p2, p3⟩ := okr_cl (lo := 0) (hi := 16) hx (by decide)
    have hg : rg x 0 16 := ⟨p3, p1, p2⟩
    exact K135_7 hL (yes (by decide) (E19 hL (nno rfl (K135_29 ⟨Or.inr rfl, hQ.e (c.num (Or.inl ⟨rfl, rfl, hg⟩)) ((frc.r 28 I).u (by decide) (by decide)).c⟩))))
  · rw [if_neg (by exact h)] at hQ
    exact K135_7 hL (nno rfl (E19 hL (yes (by decide) (K135_15 ⟨Or.inl rfl, hQ.e c (ix.r I).c⟩))))
theorem r287 {d : Nat} {Q : XQ} {S : XS} {I : XI} {J : XJ} {r : XR} {x : Int32} (hL : LAY S r) (w : WF (I 70)) (hQ : AM Q S I J r (a135 (I 70) x).1 (a135 (I 70) x).2.1 (a135 (I 70) x).2.2) : xcall (d + 2) 287 [.ref 65, .int x] S I J r Q := by
  unfold a135 at hQ
  refine E287 hL (c221 (fun h3 h4 => ?_) (fun h => ?_))
  · rw [i_l] at h3 h4
    have hx : okr x 0 16 := ⟨h3, h4⟩
    rw [if_pos hx] at hQ
    exact K287_19 hL (yes (by decide) (hQ.g up70 (f70.r _).u))
  · rw [i_l] at h
    rw [if_neg (by exact h)] at hQ
    exact K287_19 hL (nno rfl (E195 hL (K287_27 ⟨Or.inl rfl, hQ.r⟩)))
/-! sail -/
/-- a ship counted: struck where it strikes -/
def shB (B : Nat → Int32) (st : Int32) : Int32 × (Nat → Int32) := if st = -1 then (1, ub B 6 (B 6 + nI 1)) else (0, ub B 5 (B 5 + nI 1))
theorem c131 {d : Nat} {Q : XQ} {S : XS} {I : XI} {J : XJ} {r : XR} {a p m dr : Nat} {B : Nat → Int32} {W : Nat → Int64} {g : Nat → Nat} (h0 : LY4 S r p) (h1 : LY0 S r a) (c : CR I J a B W) (hd : dr ≤ 10) (hm : m < 30) (hg : ∀ i, i ≤ m → g i < 32) (e1 : I p 1 = nI (m + 1)) (e2 : ∀ i, i ≤ m → I (p + 1) i = nI (g i))
    (hQ : ∀ I', frc a I I' → CR I' J a (shB B (STR B dr g m)).2 W → Q (some (.int (shB B (STR B dr g m)).1)) S I' J r) : xcall (d + 4) 131 [.ref p, .ref a, .int (nI dr)] S I J r Q := by
  obtain ⟨b0, b1, b4, b2, b3, bv, b5, b6⟩ := c.2.1
  unfold shB at hQ
  refine E131 h0 (c132 h0 h1 c hd hm hg e1 e2 (K131_6 h1 ?_))
  by_cases q : STR B dr g m = -1
  · rw [if_pos q] at hQ
    rw [b6]
    exact yes q (hQ _ ((frc.r a I).u (by omega) (by omega)) (c.num (Or.inr (Or.inr ⟨rfl, rfl⟩))))
  · rw [if_neg q] at hQ
    rw [b5]
    exact no q (hQ _ ((frc.r a I).u (by omega) (by omega)) (c.num (Or.inr (Or.inl ⟨rfl, rfl⟩))))
def a117 (B : Nat → Int32) (s f t dr : Int32) : Nat × Int32 × (Nat → Int32) := if vo B s f t dr ≠ 0 then (vo B s f t dr, -1, B) else if WL B (ope B s) (cl f) (cl t) < 30 then (0, (shB B (ST1 B s (cl f) (cl t) (cl dr))).1, (shB B (ST1 B s (cl f) (cl t) (cl dr))).2) else (8, -1, B)
theorem c117 {d : Nat} {Q : XQ} {S : XS} {I : XI} {J : XJ} {r : XR} {s f t dr : Int32} {B : Nat → Int32} {W : Nat → Int64} (hL : LAY S r) (c : CR I J 28 B W) (hQ : AC Q S I J r W (a117 B s f t dr).1 (a117 B s f t dr).2.1 (a117 B s f t dr).2.2) : xcall (d + 6) 117 [.ref 0, .int s, .int f, .int t, .int dr] S I J r Q := by
  have hv := vo_le (B := B) (s := s) (f := f) (t := t) (dr := dr)
  unfold a117 at hQ
  refine E117 hL (c118 hL c (fun h => ?_) (fun h I' g e => ?_))
  · rw [if_pos h] at hQ
    exact K117_9 hL (no (st_1 h (by omega)) (E31 hL (K117_22 (hQ.e c (ix.r I).c))))
  · rw [if_neg (by rw [h]; decide)] at hQ
    obtain ⟨q1, q2, q3, q4, q5⟩ := vo_0 h
    obtain ⟨p1, p2, p3⟩ := dr_cl q4 q5
    have hf := (okx_cl q1).1
    have hi := g.ix (Or.inl rfl)
    by_cases q : WL B (ope B s) (cl f) (cl t) < 30
    · rw [if_pos q] at hQ ⊢
      generalize cl dr = dr' at *
      subst p3
      dsimp only at hQ
      refine K117_9 hL (yes rfl (c131 (lay4_19 hL) (lay0_28 hL) (hi.cr c) p1 q (WY_32 c.wf hf q) (e q).1 (e q).2 (fun I2 g2 c2 => K117_37 hL ?_)))
      have e3 : ∀ v, (shB B (ST1 B s (cl f) (cl t) dr')).1 = v → Q (some (.int v)) S (up2 I2 0 13 (nI 0)) J r := fun v hv => by
        rw [hv] at hQ
        exact hQ.e c2 (hi.c.t g2.c)
      by_cases q6 : ST1 B s (cl f) (cl t) dr' = -1
      · have h7 : (shB B (ST1 B s (cl f) (cl t) dr')).1 = 1 := by unfold shB; rw [if_pos q6]
        refine no (fun h9 => ?_) (E83 hL (K117_48 (e3 _ h7)))
        rw [show STR B dr' (WY B (ope B s) (cl f) (cl t)) (WL B (ope B s) (cl f) (cl t)) = ST1 B s (cl f) (cl t) dr' from rfl, h7] at h9
        exact absurd h9 (by decide)
      · have h7 : (shB B (ST1 B s (cl f) (cl t) dr')).1 = 0 := by unfold shB; rw [if_neg q6]
        exact yes h7 (E83 hL (K117_48 (e3 _ h7)))
    · rw [if_neg q] at hQ ⊢
      exact K117_9 hL (no (by decide) (E31 hL (K117_22 (hQ.e (hi.cr c) hi.c))))
/-- the reference's ship: -1 without a way -/
theorem r293 {d : Nat} {Q : XQ} {S : XS} {I : XI} {J : XJ} {r : XR} {x : Int32} {f t dr : Nat} (hL : LAY S r) (w : WF (I 70)) (hf : f < ce (I 70)) (ht : t < ce (I 70)) (hd : dr ≤ 10)
    (hY : WL (I 70) (ope (I 70) x) f t < 30 → ∀ I', (∀ q, q ≠ 73 → q ≠ 70 → I' q = I q) → I' 70 = (shB (I 70) (ST1 (I 70) x f t dr)).2 → Q (some (.int (shB (I 70) (ST1 (I 70) x f t dr)).1)) S I' J r)
    (hN : ¬ WL (I 70) (ope (I 70) x) f t < 30 → ∀ I', f73 I I' → Q (some (.int (-1))) S I' J r) : xcall (d + 7) 293 [.ref 65, .int x, .int (nI f), .int (nI t), .int (nI dr)] S I J r Q := by
  refine E293 hL (r294 hL w hf ht (fun I1 g e => K293_7 hL ?_))
  have g70 : I1 70 = I 70 := g 70 (by decide)
  by_cases q : WL (I 70) (ope (I 70) x) f t < 30
  · have h9 := STR_0 (B := I 70) (dr := dr) (WY_32 w hf q)
    refine yes (WN_0.mpr q) (r299 (o := ope (I1 70) x) (t := t) hL (by rw [g70]; exact w) (ope_in (by rw [g70]; exact w)) (by rw [g70]; exact hf) (by rw [g70]; exact q) (by rw [g70]; exact e q) hd ?_)
    have hq := hY q
    unfold shB at hq
    rw [g70]
    by_cases q6 : ST1 (I 70) x f t dr = -1
    · rw [if_pos q6] at hq
      refine K293_19 hL (yes ?_ (yes rfl (yes rfl (hq _ (fun p h1 h2 => ?_) ?_))))
      · rw [show STR (I 70) dr (WY (I 70) (ope (I 70) x) f t) (WL (I 70) (ope (I 70) x) f t) = -1 from q6]; decide
      · rw [up_o h2]; exact g p h1
      · rw [up70, g70]
    · rw [if_neg q6] at hq
      refine K293_19 hL (no (fun h => ?_) (no (by decide) (no (by decide) (hq _ (fun p h1 h2 => ?_) ?_))))
      · rw [i_lt, i_z] at h
        have h5 := h9.mpr q6
        rw [i_le, i_z] at h5
        omega
      · rw [up_o h2]; exact g p h1
      · rw [up70, g70]
  · exact no (fun h => q (WN_0.mp h)) (hN q I1 g)
theorem r288 {d : Nat} {Q : XQ} {S : XS} {I : XI} {J : XJ} {r : XR} {s f t dr : Int32} (hL : LAY S r) (w : WF (I 70)) (hQ : AM Q S I J r (a117 (I 70) s f t dr).1 (a117 (I 70) s f t dr).2.1 (a117 (I 70) s f t dr).2.2) : xcall (d + 8) 288 [.ref 65, .int s, .int f, .int t, .int dr] S I J r Q := by
  have hv := vo_le (B := I 70) (s := s) (f := f) (t := t) (dr := dr)
  unfold a117 at hQ
  refine E288 hL (r289 hL w ?_)
  show xrun z0 _ Q 288 15 [_, _, _, _, _, _] [.int (nI (vo (I 70) s f t dr)), .ref 65] S (up2 I 65 1 (nI 0)) J r _ _
  refine K288_15 hL ?_
  have i1 : ix I (up2 I 65 1 (nI 0)) := (ix.r I).u rfl
  by_cases h : vo (I 70) s f t dr = 0
  · rw [if_neg (fun q => q h)] at hQ
    obtain ⟨q1, q2, q3, q4, q5⟩ := vo_0 h
    obtain ⟨p1, p2⟩ := okx_cl q1
    obtain ⟨p3, p4⟩ := okx_cl q2
    obtain ⟨p5, p6, p7⟩ := dr_cl q4 q5
    refine yes ((up_le0 (by omega)).mpr h) ?_
    generalize cl f = f' at *
    generalize cl t = t' at *
    generalize cl dr = dr' at *
    subst p2 p4 p7
    rw [h]
    refine r293 hL w p1 p3 p5 (fun q I' g hI => ?_) (fun q I' g => ?_)
    · have q' : WL (I 70) (ope (I 70) s) f' t' < 30 := q
      rw [if_pos q'] at hQ
      dsimp only at hQ
      have hI' : I' 70 = (shB (I 70) (ST1 (I 70) s f' t' dr')).2 := hI
      show xrun z0 _ Q 288 36 [_, _, _, _, _, _] [.int (shB (I 70) (ST1 (I 70) s f' t' dr')).1] S I' J r _ _
      refine K288_36 hL (yes ?_ (hQ _ hI' (fun p i hp hq => ?_) (by rw [g 0 (by decide) (by decide)]; rfl) (by rw [g 65 (by decide) (by decide)]; rfl)))
      · unfold shB
        split
        · show (0 : Int32) ≤ 1
          decide
        · show (0 : Int32) ≤ 0
          decide
      · by_cases h73 : p = 73
        · subst h73; cases hp
        · rw [g p h73 hq]
          exact (i1.u (q := 65) (i := 0) (v := nI 0) rfl) p i hp
    · have q' : ¬ WL (I 70) (ope (I 70) s) f' t' < 30 := q
      rw [if_neg q'] at hQ
      exact K288_36 hL (no (by decide) (E261 hL (K288_49 (hQ.e (by rw [g 70 (by decide)]; rfl) ((i1.u rfl).t g.ix).m (by rw [g 0 (by decide)]; rfl)))))
  · rw [if_pos h] at hQ
    exact no (fun q => h ((up_le0 (by omega)).mp q)) (hQ.e rfl i1.m rfl)
