/-! a coast that is changed -/
def ub (B : Nat → Int32) (i : Nat) (v : Int32) : Nat → Int32 := fun j => if j = i then v else B j
theorem ub_e {B : Nat → Int32} {i : Nat} {v : Int32} : ub B i v i = v := if_pos rfl
theorem ub_o {B : Nat → Int32} {i j : Nat} {v : Int32} (h : j ≠ i) : ub B i v j = B j := if_neg h
theorem bn_o {B : Nat → Int32} {i j : Nat} {v : Int32} (h : j ≠ i) : bn (ub B i v) j = bn B j := by unfold bn; rw [ub_o h]
theorem bn_e {B : Nat → Int32} {i : Nat} {v : Int32} : bn (ub B i v) i = v.toNatClampNeg := by unfold bn; rw [ub_e]
theorem bn_c {B B' : Nat → Int32} {j : Nat} (h : B' j = B j) : bn B' j = bn B j := by unfold bn; rw [h]
theorem ub_same {B : Nat → Int32} {i : Nat} {v : Int32} (h : B i = v) : ub B i v = B := funext fun j => by
  unfold ub
  split
  · rename_i e; rw [e, h]
  · rfl
theorem ce_cg {B B' : Nat → Int32} (h : ∀ j, j < 2 → B' j = B j) : ce B' = ce B := by unfold ce; rw [bn_c (h 0 (by decide)), bn_c (h 1 (by decide))]
theorem inP_cg {B B' : Nat → Int32} {k c : Nat} (h0 : B' 0 = B 0) (h1 : B' (37 + k) = B (37 + k)) (h2 : B' (43 + k) = B (43 + k)) (h3 : B' (49 + k) = B (49 + k)) : inP B' k c = inP B k c := by
  unfold inP; rw [bn_c h0, bn_c h1, bn_c h2, bn_c h3]
theorem pat_cg {B B' : Nat → Int32} {k : Nat} (h : ∀ j, j < 2 → B' j = B j) (h1 : B' (37 + k) = B (37 + k)) (h2 : B' (43 + k) = B (43 + k)) (h3 : B' (49 + k) = B (49 + k)) : pat B' k = pat B k := by
  unfold pat
  rw [ce_cg h]
  exact orN_congr (fun c _ => by rw [inP_cg (h 0 (by decide)) h1 h2 h3])
theorem shal_cg {B B' : Nat → Int32} {t : Nat} (h2 : B' 2 = B 2) (h : ∀ q, q < bn B 2 → B' (7 + q) = B (7 + q) ∧ B' (22 + q) = B (22 + q)) : shal B' t = shal B t := by
  unfold shal
  rw [bn_c h2]
  exact orN_congr (fun q hq => by rw [bn_c (h q hq).1, bn_c (h q hq).2])
theorem vset_cg {B B' : Nat → Int32} (h3 : B' 3 = B 3) (h : ∀ k, k < bn B 3 → B' (61 + k) = B (61 + k)) : vset B' = vset B := by
  unfold vset
  rw [bn_c h3]
  exact orN_congr (fun q hq => by rw [h q hq])
theorem WF.of {B B' : Nat → Int32} (h : WF B) (h0 : ∀ j, j < 55 → j ≠ 4 → j ≠ 5 → j ≠ 6 → B' j = B j) (h4 : rg (B' 4) 0 16) (hp : ∀ k, k < bn B 3 → rg (B' (55 + k)) 0 9 ∧ (B' (61 + k) = 0 ∨ B' (61 + k) = 1) ∧ (∀ c, c < 32 → bt (B' (67 + k)) c = true → inP B k c = true) ∧ ctN (B' (67 + k)) 30 ≤ 6) : WF B' := by
  have hr := h.r.2
  have hc := h.c.2
  have e0 := h0 0 (by decide) (by decide) (by decide) (by decide)
  have e1 := h0 1 (by decide) (by decide) (by decide) (by decide)
  have e2 := h0 2 (by decide) (by decide) (by decide) (by decide)
  have e3 := h0 3 (by decide) (by decide) (by decide) (by decide)
  have ec : ce B' = ce B := by unfold ce; rw [bn_c e0, bn_c e1]
  obtain ⟨a0, a1, a2, a3, a4, a5, a6, a7⟩ := h
  refine ⟨by rw [e0]; exact a0, by rw [e1]; exact a1, by rw [e2]; exact a2, by rw [e3]; exact a3, h4, fun q hq => ?_, fun q s h1 h2 => ?_, fun k hk => ?_⟩
  · rw [bn_c e2] at hq
    rw [h0 (7 + q) (by omega) (by omega) (by omega) (by omega), h0 (22 + q) (by omega) (by omega) (by omega) (by omega), ec]
    exact a5 q hq
  · rw [bn_c e2] at h2
    rw [bn_c (h0 (7 + q) (by omega) (by omega) (by omega) (by omega)), bn_c (h0 (7 + s) (by omega) (by omega) (by omega) (by omega))]
    exact a6 q s h1 h2
  · rw [bn_c e3] at hk
    have f1 := h0 (37 + k) (by omega) (by omega) (by omega) (by omega)
    have f2 := h0 (43 + k) (by omega) (by omega) (by omega) (by omega)
    have f3 := h0 (49 + k) (by omega) (by omega) (by omega) (by omega)
    obtain ⟨p1, p2, p3, _⟩ := a7 k hk
    obtain ⟨q1, q2, q3, q4⟩ := hp k hk
    refine ⟨by rw [f1, ec]; exact p1, by rw [f2, bn_c e0, bn_c f1]; exact p2, by rw [f3, bn_c e0, bn_c e1, bn_c f1]; exact p3, q1, q2, fun c hc hb => ?_, q4⟩
    rw [inP_cg e0 f1 f2 f3]
    exact q3 c hc hb
/-- all but the coast's own rows at a are as they were -/
def frc (a : Nat) (I I' : XI) : Prop := ∀ q, q < a ∨ a + 10 < q → I' q = I q
theorem frc.r (a : Nat) (I : XI) : frc a I I := fun _ _ => rfl
theorem frc.u {a q i : Nat} {v : Int32} {I I' : XI} (h : frc a I I') (h1 : a ≤ q) (h2 : q ≤ a + 10) : frc a I (up2 I' q i v) := fun p hp => by rw [up_o (by omega)]; exact h p hp
theorem frc.t {a : Nat} {I I' I2 : XI} (h : frc a I I') (h2 : frc a I' I2) : frc a I I2 := fun p hp => (h2 p hp).trans (h p hp)
theorem CR.of {I I' : XI} {J : XJ} {a : Nat} {B B' : Nat → Int32} {W : Nat → Int64} (c : CR I J a B W) (h0 : ∀ j, j < 55 → j ≠ 4 → j ≠ 5 → j ≠ 6 → B' j = B j) (w : WF B')
    (g0 : I' a 0 = I a 0 ∧ I' a 1 = I a 1 ∧ I' a 3 = I a 3 ∧ I' a 7 = I a 7) (g : ∀ q, 1 ≤ q → q ≤ 8 → I' (a + q) = I (a + q)) (g2 : I' a 2 = B' 4) (g15 : I' a 15 = vset B') (g16 : I' a 16 = B' 5) (g17 : I' a 17 = B' 6)
    (g9 : ∀ k, k < bn B 3 → I' (a + 9) k = B' (55 + k) ∧ I' (a + 10) k = B' (67 + k)) : CR I' J a B' W := by
  have hr := c.wf.r.2
  have hc := c.wf.c.2
  have e0 := h0 0 (by decide) (by decide) (by decide) (by decide)
  have e1 := h0 1 (by decide) (by decide) (by decide) (by decide)
  have e2 := h0 2 (by decide) (by decide) (by decide) (by decide)
  have e3 := h0 3 (by decide) (by decide) (by decide) (by decide)
  obtain ⟨b0, b1, b4, b2, b3, bv, b5, b6⟩ := c.2.1
  refine ⟨w, ⟨by rw [g0.1, b0, e0], by rw [g0.2.1, b1, e1], g2, by rw [g0.2.2.1, b2, e2], by rw [g0.2.2.2, b3, e3], g15, g16, g17⟩, fun i hi => ?_, fun t ht => ?_, fun k hk => ?_⟩
  · rw [bn_c e2] at hi
    rw [g 1 (by decide) (by decide), g 2 (by decide) (by decide), h0 (7 + i) (by omega) (by omega) (by omega) (by omega), h0 (22 + i) (by omega) (by omega) (by omega) (by omega)]
    exact c.2.2.1 i hi
  · rw [g 3 (by decide) (by decide), c.sh ht]
    refine (shal_cg e2 (fun q hq => ⟨?_, ?_⟩)).symm
    · exact h0 _ (by omega) (by omega) (by omega) (by omega)
    · exact h0 _ (by omega) (by omega) (by omega) (by omega)
  · rw [bn_c e3] at hk
    obtain ⟨p4, p5, p6, p7, p8, _, _⟩ := c.2.2.2.2 k hk
    have f1 := h0 (37 + k) (by omega) (by omega) (by omega) (by omega)
    have f2 := h0 (43 + k) (by omega) (by omega) (by omega) (by omega)
    have f3 := h0 (49 + k) (by omega) (by omega) (by omega) (by omega)
    refine ⟨p4, by rw [g 5 (by decide) (by decide), p5, f1], by rw [g 6 (by decide) (by decide), p6, f2], by rw [g 7 (by decide) (by decide), p7, f3], ?_, (g9 k hk).1, (g9 k hk).2⟩
    rw [g 8 (by decide) (by decide), p8]
    refine (pat_cg (fun j hj => ?_) f1 f2 f3).symm
    have : j = 0 ∨ j = 1 := by omega
    rcases this with rfl | rfl
    · exact e0
    · exact e1
theorem PW.l {B : Nat → Int32} (h : WF B) {k : Nat} (hk : k < bn B 3) : rg (B (55 + k)) 0 9 ∧ (B (61 + k) = 0 ∨ B (61 + k) = 1) ∧ (∀ c, c < 32 → bt (B (67 + k)) c = true → inP B k c = true) ∧ ctN (B (67 + k)) 30 ≤ 6 := ⟨(h.pw hk).2.2.2.1, h.ve hk, (h.ik hk).1, (h.ik hk).2⟩
theorem WF.o' {B : Nat → Int32} (h : WF B) : rg (B 4) 0 16 := h.2.2.2.2.1
theorem WF.tan {B : Nat → Int32} (h : WF B) {k v : Nat} (hk : k < bn B 3) (hv : v ≤ 9) : WF (ub B (55 + k) (nI v)) := by
  have hc := h.c.2
  refine h.of (fun j h1 _ _ _ => ub_o (by omega)) (by rw [ub_o (by omega)]; exact h.o') (fun m hm => ?_)
  have p := PW.l h hm
  rw [ub_o (i := 55 + k) (j := 61 + m) (by omega), ub_o (i := 55 + k) (j := 67 + m) (by omega)]
  refine ⟨?_, p.2⟩
  by_cases e : m = k
  · subst e; rw [ub_e]; exact rg_nI (by omega) hv (by decide)
  · rw [ub_o (by omega)]; exact p.1
theorem CR.tan {I : XI} {J : XJ} {a : Nat} {B : Nat → Int32} {W : Nat → Int64} (c : CR I J a B W) {k v : Nat} (hk : k < bn B 3) (hv : v ≤ 9) : CR (up2 I (a + 9) k (nI v)) J a (ub B (55 + k) (nI v)) W := by
  have hc := c.wf.c.2
  obtain ⟨b0, b1, b4, b2, b3, bv, b5, b6⟩ := c.2.1
  have h0 : up2 I (a + 9) k (nI v) a = I a := up_o (by omega)
  refine c.of (fun j h1 _ _ _ => ub_o (by omega)) (c.wf.tan hk hv) (by rw [h0]; exact ⟨rfl, rfl, rfl, rfl⟩) (fun q h1 h2 => up_o (by omega)) (by rw [h0, ub_o (by omega)]; exact b4) ?_ (by rw [h0, ub_o (by omega)]; exact b5) (by rw [h0, ub_o (by omega)]; exact b6) (fun m hm => ⟨?_, ?_⟩)
  · rw [h0, bv]
    exact (vset_cg (ub_o (by omega)) (fun m hm => ub_o (by omega))).symm
  · by_cases e : m = k
    · subst e; rw [up_e, ub_e]
    · rw [up_i e, ub_o (by omega), c.tn hm, ← (c.wf.tn hm).1]
  · rw [up_o (by omega), ub_o (by omega), c.ik hm]
theorem WF.ink {B : Nat → Int32} (h : WF B) {k : Nat} {x : Int32} (hk : k < bn B 3) (hx : ∀ c, c < 32 → bt x c = true → inP B k c = true) (h6 : ctN x 30 ≤ 6) : WF (ub B (67 + k) x) := by
  have hc := h.c.2
  refine h.of (fun j h1 _ _ _ => ub_o (by omega)) (by rw [ub_o (by omega)]; exact h.o') (fun m hm => ?_)
  have p := PW.l h hm
  rw [ub_o (i := 67 + k) (j := 61 + m) (by omega), ub_o (i := 67 + k) (j := 55 + m) (by omega)]
  refine ⟨p.1, p.2.1, ?_⟩
  by_cases e : m = k
  · subst e; rw [ub_e]; exact ⟨hx, h6⟩
  · rw [ub_o (by omega)]; exact p.2.2
theorem CR.ink {I : XI} {J : XJ} {a : Nat} {B : Nat → Int32} {W : Nat → Int64} (c : CR I J a B W) {k : Nat} {x : Int32} (hk : k < bn B 3) (hx : ∀ c, c < 32 → bt x c = true → inP B k c = true) (h6 : ctN x 30 ≤ 6) : CR (up2 I (a + 10) k x) J a (ub B (67 + k) x) W := by
  have hc := c.wf.c.2
  obtain ⟨b0, b1, b4, b2, b3, bv, b5, b6⟩ := c.2.1
  have h0 : up2 I (a + 10) k x a = I a := up_o (by omega)
  refine c.of (fun j h1 _ _ _ => ub_o (by omega)) (c.wf.ink hk hx h6) (by rw [h0]; exact ⟨rfl, rfl, rfl, rfl⟩) (fun q h1 h2 => up_o (by omega)) (by rw [h0, ub_o (by omega)]; exact b4) ?_ (by rw [h0, ub_o (by omega)]; exact b5) (by rw [h0, ub_o (by omega)]; exact b6) (fun m hm => ⟨?_, ?_⟩)
  · rw [h0, bv]
    exact (vset_cg (ub_o (by omega)) (fun m hm => ub_o (by omega))).symm
  · rw [up_o (by omega), ub_o (by omega), c.tn hm, ← (c.wf.tn hm).1]
  · by_cases e : m = k
    · subst e; rw [up_e, ub_e]
    · rw [up_i e, ub_o (by omega), c.ik hm]
theorem WF.veil {B : Nat → Int32} (h : WF B) {k : Nat} {b : Int32} (hk : k < bn B 3) (hb : b = 0 ∨ b = 1) : WF (ub B (61 + k) b) := by
  have hc := h.c.2
  refine h.of (fun j h1 _ _ _ => ub_o (by omega)) (by rw [ub_o (by omega)]; exact h.o') (fun m hm => ?_)
  have p := PW.l h hm
  rw [ub_o (i := 61 + k) (j := 55 + m) (by omega), ub_o (i := 61 + k) (j := 67 + m) (by omega)]
  refine ⟨p.1, ?_, p.2.2⟩
  by_cases e : m = k
  · subst e; rw [ub_e]; exact hb
  · rw [ub_o (by omega)]; exact p.2.1
theorem vset_tog {B : Nat → Int32} (h : WF B) {k : Nat} {b : Int32} (hk : k < bn B 3) (hb : b = 0 ∨ b = 1) (hd : B (61 + k) ≠ b) : vset B ^^^ bi k = vset (ub B (61 + k) b) := by
  have hc := h.c.2
  have h' := h.veil hk hb
  apply b_ext
  intro i hi
  have e1 := bt_vset h hi
  have e2 := bt_vset h' hi
  rw [bn_o (by omega)] at e2
  rw [b_xor, bt_bit (by omega) hi]
  by_cases e : i = k
  · subst e
    rw [ub_e] at e2
    rcases h.ve hk with q | q <;> rcases hb with q2 | q2 <;> subst q2
    · exact absurd q hd
    · have h1 : bt (vset B) i = false := by rw [← Bool.not_eq_true, e1, q]; simp
      rw [h1, e2.mpr ⟨hk, rfl⟩]; simp
    · have h1 : bt (vset (ub B (61 + i) 0)) i = false := by rw [← Bool.not_eq_true, e2]; simp
      rw [e1.mpr ⟨hk, q⟩, h1]; simp
    · exact absurd q hd
  · rw [ub_o (by omega)] at e2
    rw [decide_eq_false e, Bool.xor_false]
    cases h1 : bt (vset B) i <;> cases h2 : bt (vset (ub B (61 + k) b)) i
    · rfl
    · rw [h1] at e1; exact absurd (e1.mpr (e2.mp h2)) (by decide)
    · rw [h2] at e2; exact absurd (e2.mpr (e1.mp h1)) (by decide)
    · rfl
theorem CR.veil {I : XI} {J : XJ} {a : Nat} {B : Nat → Int32} {W : Nat → Int64} (c : CR I J a B W) {k : Nat} {b : Int32} (hk : k < bn B 3) (hb : b = 0 ∨ b = 1) (hd : B (61 + k) ≠ b) : CR (up2 I a 15 (I a 15 ^^^ bi k)) J a (ub B (61 + k) b) W := by
  have hc := c.wf.c.2
  obtain ⟨b0, b1, b4, b2, b3, bv, b5, b6⟩ := c.2.1
  refine c.of (fun j h1 _ _ _ => ub_o (by omega)) (c.wf.veil hk hb) ⟨up_i (by decide), up_i (by decide), up_i (by decide), up_i (by decide)⟩ (fun q h1 h2 => up_o (by omega)) (by rw [up_i (by decide), ub_o (by omega)]; exact b4) ?_ (by rw [up_i (by decide), ub_o (by omega)]; exact b5) (by rw [up_i (by decide), ub_o (by omega)]; exact b6) (fun m hm => ⟨?_, ?_⟩)
  · rw [up_e, bv]; exact vset_tog c.wf hk hb hd
  · rw [up_o (by omega), ub_o (by omega), c.tn hm, ← (c.wf.tn hm).1]
  · rw [up_o (by omega), ub_o (by omega), c.ik hm]
/-- odds, ships -/
theorem CR.num {I : XI} {J : XJ} {a : Nat} {B : Nat → Int32} {W : Nat → Int64} (c : CR I J a B W) {i p : Nat} {v : Int32} (hi : (i = 4 ∧ p = 2 ∧ rg v 0 16) ∨ (i = 5 ∧ p = 16) ∨ (i = 6 ∧ p = 17)) : CR (up2 I a p v) J a (ub B i v) W := by
  have hc := c.wf.c.2
  obtain ⟨b0, b1, b4, b2, b3, bv, b5, b6⟩ := c.2.1
  have hp : p = 2 ∨ p = 16 ∨ p = 17 := by omega
  have hw : WF (ub B i v) := c.wf.of (fun j h1 h2 h3 h4 => ub_o (by omega)) (by
    rcases hi with ⟨rfl, _, h⟩ | ⟨rfl, _⟩ | ⟨rfl, _⟩
    · rw [ub_e]; exact h
    · rw [ub_o (by decide)]; exact c.wf.o'
    · rw [ub_o (by decide)]; exact c.wf.o') (fun m hm => by
    rw [ub_o (by omega), ub_o (by omega), ub_o (by omega)]; exact PW.l c.wf hm)
  refine c.of (fun j h1 _ _ _ => ub_o (by omega)) hw ⟨up_i (by omega), up_i (by omega), up_i (by omega), up_i (by omega)⟩ (fun q h1 h2 => up_o (by omega)) ?_ ?_ ?_ ?_ (fun m hm => ⟨?_, ?_⟩)
  · rcases hi with ⟨rfl, rfl, h⟩ | ⟨rfl, rfl⟩ | ⟨rfl, rfl⟩
    · rw [up_e, ub_e]
    · rw [up_i (by decide), ub_o (by decide)]; exact b4
    · rw [up_i (by decide), ub_o (by decide)]; exact b4
  · rw [up_i (by omega), bv]
    exact (vset_cg (ub_o (by omega)) (fun m hm => ub_o (by omega))).symm
  · rcases hi with ⟨rfl, rfl, h⟩ | ⟨rfl, rfl⟩ | ⟨rfl, rfl⟩
    · rw [up_i (by decide), ub_o (by decide)]; exact b5
    · rw [up_e, ub_e]
    · rw [up_i (by decide), ub_o (by decide)]; exact b5
  · rcases hi with ⟨rfl, rfl, h⟩ | ⟨rfl, rfl⟩ | ⟨rfl, rfl⟩
    · rw [up_i (by decide), ub_o (by decide)]; exact b6
    · rw [up_i (by decide), ub_o (by decide)]; exact b6
    · rw [up_e, ub_e]
  · rw [up_o (by omega), ub_o (by omega), c.tn hm, ← (c.wf.tn hm).1]
  · rw [up_o (by omega), ub_o (by omega), c.ik hm]
