/-! a coast and its years together -/
theorem CR.cg {I : XI} {J : XJ} {a : Nat} {B B' : Nat → Int32} {W W' : Nat → Int64} (c : CR I J a B W) (h : ∀ i, i < 73 → B' i = B i) (hw : ∀ k, k < bn B 3 → W' k = W k) : CR I J a B' W' := by
  have hr := c.wf.r.2
  have hc := c.wf.c.2
  have wf := c.1
  obtain ⟨_, ⟨b0, b1, b4, b2, b3, bv, b5, b6⟩, cr, cs, cp⟩ := c
  have w' : WF B' := by
    refine wf.of (fun j h1 _ _ _ => h j (by omega)) (by rw [h 4 (by decide)]; exact wf.o') (fun k hk => ?_)
    rw [h (55 + k) (by omega), h (61 + k) (by omega), h (67 + k) (by omega)]
    exact PW.l wf hk
  refine ⟨w', ⟨by rw [h 0 (by decide)]; exact b0, by rw [h 1 (by decide)]; exact b1, by rw [h 4 (by decide)]; exact b4, by rw [h 2 (by decide)]; exact b2, by rw [h 3 (by decide)]; exact b3, ?_, by rw [h 5 (by decide)]; exact b5, by rw [h 6 (by decide)]; exact b6⟩, fun i hi => ?_, fun t ht => ?_, fun k hk => ?_⟩
  · rw [bv]; exact (vset_cg (h 3 (by decide)) (fun k hk => h _ (by omega))).symm
  · rw [bn_c (h 2 (by decide))] at hi
    rw [h (7 + i) (by omega), h (22 + i) (by omega)]
    exact cr i hi
  · rw [cs t ht]
    exact (shal_cg (h 2 (by decide)) (fun q hq => ⟨h _ (by omega), h _ (by omega)⟩)).symm
  · rw [bn_c (h 3 (by decide))] at hk
    rw [hw k hk, h (37 + k) (by omega), h (43 + k) (by omega), h (49 + k) (by omega), h (55 + k) (by omega), h (67 + k) (by omega), pat_cg (fun j hj => h j (by omega)) (h _ (by omega)) (h _ (by omega)) (h _ (by omega))]
    exact cp k hk
theorem CR.frJ {I I' : XI} {J J' : XJ} {a : Nat} {B : Nat → Int32} {W : Nat → Int64} (c : CR I J a B W) (h : ∀ q, a ≤ q → q ≤ a + 10 → I' q = I q) (hj : J' (a + 4) = J (a + 4)) : CR I' J' a B W := by
  have c2 := c.fr h
  refine ⟨c2.1, c2.2.1, c2.2.2.1, c2.2.2.2.1, fun k hk => ?_⟩
  rw [hj]
  exact c2.2.2.2.2 k hk
def YE (I : XI) (a : Nat) (B : Nat → Int32) : Prop := (I a 0 = 0 ∧ B 73 = 0) ∨ ∃ L T Y, YA I a L T Y ∧ B 73 = 1 ∧ B 74 = nI T ∧ YM B 75 L Y ∧ PG (bn B 3) (ce B) L T Y
theorem VA.n {N N' c L : Nat} {Y : YY} (h : VA N c L Y) (hn : N ≤ N') : VA N' c L Y := fun i hi => by
  obtain ⟨k, h1, h2, h3, h4, h5⟩ := h i hi
  exact ⟨k, h1, h2, h3, h4, h5.n hn⟩
theorem PG.n {N N' c L T : Nat} {Y : YY} (h : PG N c L T Y) (hn : N ≤ N') : PG N' c L T Y := ⟨h.1, h.2.1, h.2.2.1, h.2.2.2.1, h.2.2.2.2.n hn⟩
/-- the years' words stay, the coast keeps its size, patches are never fewer -/
def kpB (B B' : Nat → Int32) : Prop := (∀ j, 73 ≤ j → j < 1380 → B' j = B j) ∧ B' 0 = B 0 ∧ B' 1 = B 1 ∧ bn B 3 ≤ bn B' 3
theorem kpB.r (B : Nat → Int32) : kpB B B := ⟨fun _ _ _ => rfl, rfl, rfl, Nat.le_refl _⟩
theorem kpB.t {B B' B2 : Nat → Int32} (h : kpB B B') (h2 : kpB B' B2) : kpB B B2 := ⟨fun j a b => (h2.1 j a b).trans (h.1 j a b), h2.2.1.trans h.2.1, h2.2.2.1.trans h.2.2.1, Nat.le_trans h.2.2.2 h2.2.2.2⟩
theorem kpB.o {B B' : Nat → Int32} (h : ∀ j, j = 0 ∨ j = 1 ∨ j = 3 ∨ 73 ≤ j → j < 1380 → B' j = B j) : kpB B B' := ⟨fun j a b => h j (by omega) b, h 0 (by decide) (by decide), h 1 (by decide) (by decide), Nat.le_of_eq (bn_c (h 3 (by decide) (by decide))).symm⟩
theorem kpB.u {B : Nat → Int32} {i : Nat} {v : Int32} (hi : 4 ≤ i) (h2 : i < 73) : kpB B (ub B i v) := kpB.o (fun j hj _ => ub_o (by omega))
theorem YE.kp3 {I : XI} {a : Nat} {B B' : Nat → Int32} (h : YE I a B) (k1 : ∀ j, 73 ≤ j → j < 345 → B' j = B j) (k2 : B' 0 = B 0) (k3 : B' 1 = B 1) (k4 : bn B 3 ≤ bn B' 3) : YE I a B' := by
  rcases h with ⟨h1, h2⟩ | ⟨L, T, Y, h1, h2, h3, h4, h5⟩
  · exact Or.inl ⟨h1, by rw [k1 73 (by decide) (by decide)]; exact h2⟩
  · have hT := h5.2.2.1
    have ec : ce B' = ce B := by unfold ce; rw [bn_c k2, bn_c k3]
    refine Or.inr ⟨L, T, Y, h1, by rw [k1 73 (by decide) (by decide)]; exact h2, by rw [k1 74 (by decide) (by decide)]; exact h3, h4.s h5.2.2.2.1 (fun j hj => k1 _ (by omega) (by omega)), ?_⟩
    rw [ec]
    exact h5.n k4
theorem YE.kp {I : XI} {a : Nat} {B B' : Nat → Int32} (h : YE I a B) (k : kpB B B') : YE I a B' := h.kp3 (fun j a b => k.1 j a (by omega)) k.2.1 k.2.2.1 k.2.2.2
theorem YE.fr {I I' : XI} {a : Nat} {B : Nat → Int32} (h : YE I a B) (k : ∀ x, a ≤ x → x ≤ a + 6 → I' x = I x) : YE I' a B := by
  rcases h with ⟨h1, h2⟩ | ⟨L, T, Y, h1, h2⟩
  · exact Or.inl ⟨by rw [k a (Nat.le_refl _) (by omega)]; exact h1, h2⟩
  · exact Or.inr ⟨L, T, Y, h1.k k, h2⟩
def CYR (I : XI) (J : XJ) (a : Nat) (B : Nat → Int32) (W : Nat → Int64) : Prop := CR I J a B W ∧ YE I (a + 11) B
theorem CYR.fr {I I' : XI} {J J' : XJ} {a : Nat} {B B' : Nat → Int32} {W W' : Nat → Int64} (c : CYR I J a B W) (h : ∀ q, a ≤ q → q ≤ a + 17 → I' q = I q) (hj : J' (a + 4) = J (a + 4)) (hB : ∀ i, i < 345 → B' i = B i) (hW : ∀ k, k < 6 → W' k = W k) : CYR I' J' a B' W' := by
  have hc := c.1.wf.c.2
  exact ⟨(c.1.frJ (fun q a b => h q a (by omega)) hj).cg (fun i hi => hB i (by omega)) (fun k hk => hW k (by omega)), (c.2.fr (fun x a b => h x (by omega) (by omega))).kp3 (fun j _ b => hB j b) (hB 0 (by decide)) (hB 1 (by decide)) (Nat.le_of_eq (bn_c (hB 3 (by decide))).symm)⟩
/-- what the actions leave -/
theorem kp_dk {B : Nat → Int32} {k n : Nat} (hk : k < 6) : kpB B (dkB B k n).2 := by
  unfold dkB
  split
  · exact kpB.r B
  · exact kpB.u (by omega) (by omega)
theorem kp_rn {B : Nat → Int32} {n : Nat} : ∀ m, m ≤ 6 → kpB B (rnB B n m).2
  | 0, _ => kpB.r B
  | m + 1, h => by
    have ih := kp_rn (B := B) (n := n) m (by omega)
    unfold rnB
    split
    · exact ih
    · exact ih.t (kpB.u (by omega) (by omega))
theorem kp_vl {B : Nat → Int32} {k : Nat} {b : Int32} (hk : k < 6) : kpB B (vlB B k b).2 := by
  unfold vlB
  split
  · exact kpB.r B
  · exact kpB.u (by omega) (by omega)
theorem kp_ik {B : Nat → Int32} {k c : Nat} (hk : k < 6) : kpB B (ikB B k c).2 := by
  unfold ikB
  split
  · exact kpB.r B
  · split
    · exact kpB.u (by omega) (by omega)
    · exact kpB.r B
theorem kp_sh {B : Nat → Int32} {x : Int32} : kpB B (shB B x).2 := by
  unfold shB
  split
  · exact kpB.u (by decide) (by decide)
  · exact kpB.u (by decide) (by decide)
theorem okx_l {B : Nat → Int32} (w : WF B) {x : Int32} (h : okx x (bn B 3)) : cl x < 6 := by
  have hc := w.c.2
  have := (okx_cl h).1
  omega
theorem kp108 {B : Nat → Int32} (w : WF B) {x y : Int32} : kpB B (a108 B x y).2.2 := by
  unfold a108
  split
  · rename_i h
    split
    · split
      · exact kp_dk (okx_l w h)
      · exact kp_dk (okx_l w h)
    · exact kpB.r B
  · exact kpB.r B
theorem kp110 {B : Nat → Int32} (w : WF B) {y : Int32} : kpB B (a110 B y).2.2 := by
  unfold a110
  split
  · exact kp_rn _ w.c.2
  · exact kpB.r B
theorem kp112 {B : Nat → Int32} (w : WF B) {x b : Int32} : kpB B (a112 B x b).2.2 := by
  unfold a112
  split
  · rename_i h
    split
    · exact kp_vl (okx_l w h)
    · exact kp_vl (okx_l w h)
  · exact kpB.r B
theorem kp113 {B : Nat → Int32} (w : WF B) {x y : Int32} : kpB B (a113 B x y).2.2 := by
  unfold a113
  split
  · rename_i h
    exact kp_ik (okx_l w h.1)
  · exact kpB.r B
theorem kp114 {B : Nat → Int32} (w : WF B) {x : Int32} : kpB B (a114 B x).2.2 := by
  unfold a114
  split
  · rename_i h
    have := okx_l w h
    split
    · exact kpB.u (by omega) (by omega)
    · exact kpB.u (by omega) (by omega)
  · exact kpB.r B
theorem kp116 {B : Nat → Int32} (w : WF B) {x y : Int32} : kpB B (a116 B x y).2.2 := by
  have hr := w.r.2
  unfold a116
  split
  · split
    · split
      · exact kpB.r B
      · split
        · exact kpB.r B
        · rename_i h _
          exact kpB.o (fun j hj _ => rkB_o (by omega) (by omega) (by omega))
    · exact kpB.r B
  · exact kpB.r B
theorem kp117 {B : Nat → Int32} {s f t dr : Int32} : kpB B (a117 B s f t dr).2.2 := by
  unfold a117
  generalize ST1 B s (cl f) (cl t) (cl dr) = x
  have k := kp_sh (B := B) (x := x)
  generalize shB B x = y at k ⊢
  split
  · exact kpB.r B
  · split
    · exact k
    · exact kpB.r B
theorem kp135 {B : Nat → Int32} {x : Int32} : kpB B (a135 B x).2.2 := by
  unfold a135
  split
  · exact kpB.u (by decide) (by decide)
  · exact kpB.r B
theorem kp_nw {B : Nat → Int32} {x y z : Int32} (h : bn B 3 < 6) : kpB B (nwB B x y z) := by
  have o : ∀ j, j = 0 ∨ j = 1 ∨ 73 ≤ j → nwB B x y z j = B j := fun j hj => nwB_o (j := j) (by omega) ⟨by omega, by omega, by omega, by omega, by omega, by omega⟩
  refine ⟨fun j a _ => o j (Or.inr (Or.inr a)), o 0 (Or.inl rfl), o 1 (Or.inr (Or.inl rfl)), ?_⟩
  have e : bn (nwB B x y z) 3 = bn B 3 + 1 := by
    unfold nwB
    rw [bn_e, nI_clamp (by omega)]
  omega
theorem kp133 {B : Nat → Int32} (w : WF B) {W : Nat → Int64} {x y z : Int32} : kpB B (a133 B W x y z).2.2.1 ∧ ∀ k, 6 ≤ k → (a133 B W x y z).2.2.2 k = W k := by
  have hc := w.c.2
  unfold a133
  split
  · split
    · split
      · exact ⟨kpB.r B, fun _ _ => rfl⟩
      · rename_i h
        refine ⟨kp_nw (by omega), fun k hk => ?_⟩
        show (if k = bn B 3 then lN 0 else W k) = W k
        rw [if_neg (by omega)]
    · exact ⟨kpB.r B, fun _ _ => rfl⟩
  · exact ⟨kpB.r B, fun _ _ => rfl⟩
