/-! spots -/
theorem and_as (x y z : Int32) : (x &&& y) &&& z = x &&& (y &&& z) := by
  apply b_ext
  intro i hi
  rw [b_and, b_and, b_and, b_and, Bool.and_assoc]
def q148 (B : Nat → Int32) (x y : Int32) : Nat × Int32 := if okx x (bn B 3) ∧ okx y (bn B 3) then (if x = y then (5, -1) else (0, (shown B (cl x) ^^^ shown B (cl y)) &&& (pat B (cl x) &&& pat B (cl y)))) else (2, -1)
theorem c148 {d : Nat} {Q : XQ} {S : XS} {I : XI} {J : XJ} {r : XR} {x y : Int32} {B : Nat → Int32} {W : Nat → Int64} (hL : LAY S r) (c : CR I J 28 B W) (hQ : QC Q S I J r (q148 B x y).1 (q148 B x y).2) : xcall (d + 4) 148 [.ref 0, .int x, .int y] S I J r Q := by
  have hb := c.wf.c.2
  refine E148 hL (c72 (lay0_28 hL) c.n7 (by omega) (fun k h1 h2 => K148_8 hL (no (by decide) (c72 (lay0_28 hL) c.n7 (by omega) (fun m h3 h4 => ?_) (fun h => ?_)))) (fun h => ?_))
  · rw [q148, if_pos ⟨by rw [h2]; exact okx_nI h1 (by omega), by rw [h4]; exact okx_nI h3 (by omega)⟩] at hQ
    refine K148_19 hL (yes (by decide) ?_)
    by_cases q : x = y
    · rw [if_pos q] at hQ
      exact nno q (E31 hL (K148_38 (hQ.e (ix.r I))))
    · rw [if_neg q] at hQ
      subst h2 h4
      rw [show cl (nI k) = k from nI_clamp (by omega), show cl (nI m) = m from nI_clamp (by omega)] at hQ
      refine yes q ⟨vp_in_nI (by omega) (by decide), vp_in_nI (by omega) (by decide), ?_⟩
      rw [nI_clamp (by omega), nI_clamp (by omega), c.pt h1, c.pt h3]
      exact c105 (lay0_28 hL) c h1 (K148_68 hL (c105 (lay0_28 hL) c h3 (K148_76 hL (E83 hL (K148_82 (hQ.e (ix.r I)))))))
  · rw [q148, if_neg (fun q => h q.2)] at hQ
    exact K148_19 hL (nno rfl (E31 hL (K148_27 (hQ.e (ix.r I)))))
  · rw [q148, if_neg (fun q => h q.1)] at hQ
    exact K148_8 hL (yes rfl (E31 hL (K148_27 (hQ.e (ix.r I)))))
/-- two cousins -/
def tw (B : Nat → Int32) (x y : Int32) : Nat := if okx x (bn B 3) ∧ okx y (bn B 3) then (if x = y then 5 else 0) else 2
theorem r315 {d : Nat} {Q : XQ} {S : XS} {I : XI} {J : XJ} {r : XR} {x y : Int32} (hL : LAY S r) (w : WF (I 70)) (hQ : Q (some (.int (nI (tw (I 70) x y)))) S I J r) : xcall (d + 3) 315 [.ref 65, .int x, .int y] S I J r Q := by
  refine E315 hL (r269 hL w (fun h1 h2 => K315_5 hL (no (by decide) (r269 hL w (fun h3 h4 => ?_) (fun h => ?_)))) (fun h => ?_))
  · rw [tw, if_pos ⟨⟨h1, h2⟩, h3, h4⟩] at hQ
    refine K315_13 (yes (by decide) ?_)
    by_cases q : x = y
    · rw [if_pos q] at hQ; exact nno q hQ
    · rw [if_neg q] at hQ; exact yes q hQ
  · rw [tw, if_neg (fun q => h q.2)] at hQ
    exact K315_13 (nno rfl hQ)
  · rw [tw, if_neg (fun q => h q.1)] at hQ
    exact K315_5 hL (yes rfl hQ)
theorem r314 {d : Nat} {Q : XQ} {S : XS} {I : XI} {J : XJ} {r : XR} {x y : Int32} (hL : LAY S r) (w : WF (I 70)) (hQ : QM Q S I J r (q148 (I 70) x y).1 (q148 (I 70) x y).2) : xcall (d + 4) 314 [.ref 65, .int x, .int y] S I J r Q := by
  have hb := w.c.2
  have i1 : ix I (up2 I 65 1 (nI 0)) := (ix.r I).u rfl
  refine E314 hL (r315 hL w ?_)
  show xrun z0 _ Q 314 12 [_, _, _] [.int (nI (tw (I 70) x y)), .ref 65] S (up2 I 65 1 (nI 0)) J r _ _
  refine K314_12 hL ?_
  unfold q148 at hQ
  by_cases h : okx x (bn (I 70) 3) ∧ okx y (bn (I 70) 3)
  · rw [if_pos h] at hQ
    rw [tw, if_pos h]
    by_cases q : x = y
    · rw [if_pos q] at hQ ⊢
      exact no (by rw [up_le0 (by decide)]; decide) (hQ.e i1 rfl)
    · rw [if_neg q] at hQ ⊢
      obtain ⟨k, k1, k2, k3⟩ := i_num h.1
      obtain ⟨m, h4, h5, h6⟩ := i_num h.2
      rw [k3, h6] at hQ
      subst k2 h5
      have hq := hQ.e i1 rfl
      rw [← and_as] at hq
      exact yes ((up_le0 (by decide)).mpr rfl) (r272 hL w k1 (K314_31 hL (r272 hL w h4 (K314_36 hL (r270 hL w k1 (K314_42 hL (r270 hL w h4 (K314_48 hq))))))))
  · rw [if_neg (by exact h)] at hQ
    rw [tw, if_neg h]
    exact no (by rw [up_le0 (by decide)]; decide) (hQ.e i1 rfl)
/-- bits that lie on the coast -/
theorem ct_in {x : Int32} {n : Nat} (hn : n ≤ 30) (h : ∀ i, i < 32 → bt x i = true → i < n) : ctN x 32 = ctN x 30 := ct_30 (fun i h1 h2 => by
  rw [← Bool.not_eq_true]
  intro q
  have := h i h2 q
  omega)
theorem ik_in {B : Nat → Int32} (h : WF B) {k : Nat} (hk : k < bn B 3) : ∀ i, i < 32 → bt (B (67 + k)) i = true → i < ce B := fun i hi hb => inP_lt h hk ((h.ik hk).1 i hi hb)
theorem and_in {x y : Int32} {n : Nat} (h : ∀ i, i < 32 → bt x i = true → i < n) : ∀ i, i < 32 → bt (x &&& y) i = true → i < n := fun i hi hb => by
  rw [b_and, Bool.and_eq_true] at hb; exact h i hi hb.1
theorem rs_in {B : Nat → Int32} (h : WF B) : ∀ i, i < 32 → bt (rset B) i = true → i < ce B := fun i hi hb => by
  rw [bt_rset h hi] at hb
  obtain ⟨q, h1, h2⟩ := hb
  have := (h.cl h1).2.1
  omega
theorem pt_in {B : Nat → Int32} (h : WF B) {k : Nat} (hk : k < bn B 3) : ∀ i, i < 32 → bt (pat B k) i = true → i < ce B := fun i hi hb => by
  rw [bt_pat h hk hi] at hb; exact inP_lt h hk hb
theorem sw_in {B : Nat → Int32} (h : WF B) {k : Nat} (hk : k < bn B 3) : ∀ i, i < 32 → bt (shown B k) i = true → i < ce B := fun i hi hb => by
  rw [bt_shown h hk hi] at hb
  rcases hb.2 with q | q
  · exact ik_in h hk i hi q
  · exact inP_lt h hk q.1
def q147 (B : Nat → Int32) (x : Int32) : Nat × Int32 := if okx x (bn B 3) then (0, nI (ctN (B (67 + cl x) &&& (rset B ^^^ (-1 : Int32))) 30)) else (2, -1)
theorem c147 {d : Nat} {Q : XQ} {S : XS} {I : XI} {J : XJ} {r : XR} {x : Int32} {B : Nat → Int32} {W : Nat → Int64} (hL : LAY S r) (c : CR I J 28 B W) (hQ : QC Q S I J r (q147 B x).1 (q147 B x).2) : xcall (d + 2) 147 [.ref 0, .int x] S I J r Q := by
  have hb := c.wf.c.2
  have hN := ce_le c.wf
  refine E147 hL (c72 (lay0_28 hL) c.n7 (by omega) (fun k h1 h2 => ?_) (fun h => ?_))
  · rw [q147, if_pos (by rw [h2]; exact okx_nI h1 (by omega))] at hQ
    subst h2
    rw [show cl (nI k) = k from nI_clamp (by omega), ← ct_in (n := ce B) (by omega) (and_in (ik_in c.wf h1))] at hQ
    refine K147_8 hL (yes (by decide) ⟨vp_in_nI (by omega) (by decide), ?_⟩)
    rw [nI_clamp (by omega), c.ik h1]
    exact c99 (lay0_28 hL) c (K147_34 (c78 (K147_40 hL (E83 hL (K147_43 (hQ.e (ix.r I)))))))
  · rw [q147, if_neg h] at hQ
    exact K147_8 hL (nno rfl (E31 hL (K147_16 (hQ.e (ix.r I)))))
theorem r313 {d : Nat} {Q : XQ} {S : XS} {I : XI} {J : XJ} {r : XR} {x : Int32} (hL : LAY S r) (w : WF (I 70)) (hQ : QM Q S I J r (q147 (I 70) x).1 (q147 (I 70) x).2) : xcall (d + 3) 313 [.ref 65, .int x] S I J r Q := by
  have hb := w.c.2
  refine E313 hL (r269 hL w (fun h1 h2 => ?_) (fun h => ?_))
  · have h : okx x (bn (I 70) 3) := ⟨h1, h2⟩
    rw [q147, if_pos h] at hQ
    obtain ⟨k, k1, k2, k3⟩ := i_num h
    rw [k3] at hQ
    subst k2
    refine K313_15 hL (no (by decide) ?_)
    rw [nI_add]
    refine ⟨vp_in_nI (by omega) (by decide), ?_⟩
    rw [nI_clamp (by omega)]
    exact r263 hL w (K313_31 (c282 (K313_37 (K313_45 hQ.z))))
  · rw [q147, if_neg (by exact h)] at hQ
    exact K313_15 hL (yes rfl (E261 hL (K313_45 hQ.r)))
/-- the tan that a cousin needs for the first n rocks -/
def ndd (B : Nat → Int32) (k : Nat) : Nat → Nat
  | 0 => 0
  | n + 1 => if inP B k (bn B (7 + n)) = true then max (ndd B k n) (bn B (22 + n) + 1) else ndd B k n
theorem ndd_le {B : Nat → Int32} {k t : Nat} : ∀ n, ndd B k n ≤ t ↔ ∀ q, q < n → inP B k (bn B (7 + q)) = true → bn B (22 + q) < t
  | 0 => ⟨fun _ q hq => by omega, fun _ => by rw [ndd]; omega⟩
  | n + 1 => by
    have ih := ndd_le (B := B) (k := k) (t := t) n
    rw [ndd]
    constructor
    · intro h q hq hp
      rcases Nat.lt_or_ge q n with q1 | q1
      · refine ih.mp ?_ q q1 hp
        split at h
        · omega
        · exact h
      · have : q = n := by omega
        subst this
        rw [if_pos hp] at h; omega
    · intro h
      have h1 := ih.mpr (fun q hq hp => h q (by omega) hp)
      split
      · rename_i hp
        have := h n (by omega) hp
        omega
      · exact h1
theorem ndd_10 {B : Nat → Int32} (h : WF B) {k : Nat} : ∀ n, n ≤ bn B 2 → ndd B k n ≤ 10 := fun n hn => (ndd_le n).mpr (fun q hq _ => by have := (h.dp (r := q) (by omega)).2; omega)
theorem and_z {x : Int32} : x = 0 ↔ ∀ i, i < 32 → bt x i = false := by
  constructor
  · rintro rfl i _; exact b_0 i
  · intro h; exact b_ext (fun i hi => by rw [h i hi, b_0])
theorem need_z {B : Nat → Int32} (h : WF B) {k t : Nat} (hk : k < bn B 3) : ((pat B k &&& rset B) &&& (shal B t ^^^ (-1 : Int32)) = 0) ↔ ndd B k (bn B 2) ≤ t := by
  have hN := ce_le h
  rw [and_z, ndd_le]
  constructor
  · intro h1 q hq hp
    have hc := h.cl hq
    have h2 := h1 (bn B (7 + q)) (by omega)
    rw [b_and, b_and, bt_not (by omega), (bt_pat h hk (by omega)).mpr hp, (bt_rset h (by omega)).mpr ⟨q, hq, rfl⟩] at h2
    rw [Bool.true_and, Bool.true_and, Bool.not_eq_false', bt_shal h (by omega)] at h2
    obtain ⟨s, h3, h4, h5⟩ := h2
    have := h.nd h3 hq h5
    subst this; exact h4
  · intro h1 i hi
    rw [← Bool.not_eq_true]
    intro h2
    rw [b_and, b_and, bt_not hi, Bool.and_eq_true, Bool.and_eq_true, bt_pat h hk hi, bt_rset h hi, Bool.not_eq_true', ← Bool.not_eq_true, bt_shal h hi] at h2
    obtain ⟨⟨h3, q, h4, h5⟩, h6⟩ := h2
    exact h6 ⟨q, h4, h1 q h4 (by rw [h5]; exact h3), h5⟩
def q146 (B : Nat → Int32) (x : Int32) : Nat × Int32 := if okx x (bn B 3) then (if ndd B (cl x) (bn B 2) ≤ 9 then (0, nI (ndd B (cl x) (bn B 2) - bn B (55 + cl x))) else (9, -1)) else (2, -1)
theorem k146 {d : Nat} {Q : XQ} {S : XS} {I : XI} {J : XJ} {r : XR} {cu su k : Nat} {B : Nat → Int32} {W : Nat → Int64} (hL : LAY S r) (c : CR I J 28 B W) (hk : k < bn B 3) (h0 : ndd B k (bn B 2) ≤ 9 → Q (some (.int (nI (ndd B k (bn B 2) - bn B (55 + k))))) S (up2 I 0 13 (nI 0)) J r) (h1 : ¬ ndd B k (bn B 2) ≤ 9 → Q (some (.int (-1))) S (up2 I 0 13 (nI 9)) J r) :
    ∀ j t, t + j = 10 → bn B (55 + k) ≤ t → (∀ q, bn B (55 + k) ≤ q → q < t → ¬ ndd B k (bn B 2) ≤ q) → xrun z0 (xcall (d + 2)) Q 146 45 [.ref 0, .int (nI k), .int (pat B k &&& rset B), .int (nI t)] [] S I J r cu su
  | 0, t, hi, hlo, hn => by
    have ht := c.wf.tn hk
    refine K146_45 hL (yes (by rw [nI_ltI (by omega) (by omega)]; omega) (E31 hL (K146_94 (h1 (hn 9 (by omega) (by omega))))))
  | j + 1, t, hi, hlo, hn => by
    have ht := c.wf.tn hk
    have hb := c.wf.c.2
    refine K146_45 hL (no (by rw [nI_ltI (by omega) (by omega)]; omega) (c106 (lay0_28 hL) c (by omega) (K146_60 hL ?_)))
    have hz := need_z (t := t) c.wf hk
    by_cases q : ndd B k (bn B 2) ≤ t
    · refine nno (hz.mpr q) ⟨vp_in_nI (by omega) (by decide), ?_⟩
      rw [nI_clamp (by omega), c.tn hk, pk_sub hlo]
      have e : ndd B k (bn B 2) - bn B (55 + k) = t - bn B (55 + k) := by
        rcases Nat.lt_or_ge (bn B (55 + k)) t with q2 | q2
        · have := hn (t - 1) (by omega) (by omega)
          omega
        · omega
      have := h0 (by omega)
      rw [e] at this
      exact E83 hL (K146_81 this)
    · refine yes (fun h => q (hz.mp h)) ?_
      rw [nI_add]
      refine k146 hL c hk h0 h1 j (t + 1) (by omega) (by omega) (fun p hp1 hp2 => ?_)
      rcases Nat.lt_or_ge p t with q1 | q1
      · exact hn p hp1 q1
      · have : p = t := by omega
        subst this; exact q
theorem c146 {d : Nat} {Q : XQ} {S : XS} {I : XI} {J : XJ} {r : XR} {x : Int32} {B : Nat → Int32} {W : Nat → Int64} (hL : LAY S r) (c : CR I J 28 B W) (hQ : QC Q S I J r (q146 B x).1 (q146 B x).2) : xcall (d + 3) 146 [.ref 0, .int x] S I J r Q := by
  have hb := c.wf.c.2
  refine E146 hL (c72 (lay0_28 hL) c.n7 (by omega) (fun k h1 h2 => ?_) (fun h => ?_))
  · rw [q146, if_pos (by rw [h2]; exact okx_nI h1 (by omega))] at hQ
    subst h2
    rw [show cl (nI k) = k from nI_clamp (by omega)] at hQ
    have ht := c.wf.tn h1
    refine K146_8 hL (yes (by decide) ⟨vp_in_nI (by omega) (by decide), ?_⟩)
    rw [nI_clamp (by omega), c.pt h1]
    refine c99 (lay0_28 hL) c (K146_33 hL ⟨vp_in_nI (by omega) (by decide), ?_⟩)
    rw [nI_clamp (by omega), c.tn h1]
    refine k146 (d := d) hL c h1 (fun q => ?_) (fun q => ?_) (10 - bn B (55 + k)) (bn B (55 + k)) (by omega) (Nat.le_refl _) (fun q h3 h4 => by omega)
    · rw [if_pos q] at hQ; exact hQ.e (ix.r I)
    · rw [if_neg q] at hQ; exact hQ.e (ix.r I)
  · rw [q146, if_neg h] at hQ
    exact K146_8 hL (nno rfl (E31 hL (K146_16 (hQ.e (ix.r I)))))
theorem k312 {d : Nat} {Q : XQ} {S : XS} {I : XI} {J : XJ} {r : XR} {cu su k : Nat} (hL : LAY S r) (w : WF (I 70)) (hk : k < bn (I 70) 3) (h0 : ndd (I 70) k (bn (I 70) 2) ≤ 9 → Q (some (.int (nI (ndd (I 70) k (bn (I 70) 2) - bn (I 70) (55 + k))))) S I J r) (h1 : ¬ ndd (I 70) k (bn (I 70) 2) ≤ 9 → Q (some (.int (-1))) S (up2 I 65 0 (nI 9)) J r) :
    ∀ j i, i + j = bn (I 70) 2 → xrun z0 (xcall (d + 2)) Q 312 28 [.ref 65, .int (nI k), .int (nI (ndd (I 70) k i)), .int (nI i)] [] S I J r cu su
  | 0, i, hi => by
    have hb := w.c.2
    have e : i = bn (I 70) 2 := by omega
    subst e
    have ht := w.tn hk
    have h10 := ndd_10 w (k := k) _ (Nat.le_refl (bn (I 70) 2))
    refine K312_28 hL (yes (by rw [w.r.1]; exact Int32.le_refl _) ?_)
    by_cases q : ndd (I 70) k (bn (I 70) 2) ≤ 9
    · refine yes (by rw [nI_leI (by omega) (by omega)]; exact q) ?_
      rw [nI_add]
      refine ⟨vp_in_nI (by omega) (by decide), ?_⟩
      rw [nI_clamp (by omega), ht.1]
      have hq := h0 q
      rcases Nat.lt_or_ge (ndd (I 70) k (bn (I 70) 2)) (bn (I 70) (55 + k)) with q2 | q2
      · refine E35 (no (fun h => ?_) (K312_112 ?_))
        · rw [i_lt, i_subI (by omega) (by omega)] at h
          have : (nI 0).toInt = 0 := rfl
          omega
        · rw [show ndd (I 70) k (bn (I 70) 2) - bn (I 70) (55 + k) = 0 by omega] at hq
          exact hq
      · rw [pk_sub q2]
        refine c35 (by decide) (by omega) (K312_112 ?_)
        rw [Nat.max_eq_right (by omega)]
        exact hq
    · exact no (by rw [nI_leI (by omega) (by omega)]; exact q) (E261 hL (K312_94 (K312_112 (h1 q))))
  | j + 1, i, hi => by
    have hb := w.r.2
    have hc := w.cl (r := i) (by omega)
    have hd := w.dp (r := i) (by omega)
    have h10 := ndd_10 w (k := k) i (by omega)
    have ih := k312 (d := d) (cu := cu) (su := su) hL w hk h0 h1 j (i + 1) (by omega)
    rw [ndd] at ih
    refine K312_28 hL (no (by rw [w.r.1, nI_leI (by omega) (by omega)]; omega) ?_)
    rw [nI_add]
    refine ⟨vp_in_nI (by omega) (by decide), ?_⟩
    rw [nI_clamp (by omega), hc.1]
    refine r249w hL w hk (by omega) (fun q => K312_53 hL (no (by decide) ?_)) (fun q => K312_53 hL (yes rfl ?_))
    · rw [if_pos q] at ih
      rw [nI_add]
      refine ⟨vp_in_nI (by omega) (by decide), ?_⟩
      rw [nI_clamp (by omega), hd.1, nI_add]
      refine c35 (by omega) (by omega) (K312_71 ?_)
      rw [nI_add]; exact ih
    · rw [if_neg (by rw [q]; decide)] at ih
      rw [nI_add]; exact ih
theorem r312 {d : Nat} {Q : XQ} {S : XS} {I : XI} {J : XJ} {r : XR} {x : Int32} (hL : LAY S r) (w : WF (I 70)) (hQ : QM Q S I J r (q146 (I 70) x).1 (q146 (I 70) x).2) : xcall (d + 3) 312 [.ref 65, .int x] S I J r Q := by
  refine E312 hL (r269 hL w (fun h1 h2 => ?_) (fun h => ?_))
  · have h : okx x (bn (I 70) 3) := ⟨h1, h2⟩
    rw [q146, if_pos h] at hQ
    obtain ⟨k, k1, k2, k3⟩ := i_num h
    rw [k3] at hQ
    subst k2
    refine K312_15 hL (yes (by decide) (k312 (d := d) (I := m2 I) hL w k1 (fun q => ?_) (fun q => ?_) (bn (I 70) 2) 0 (by show 0 + bn (I 70) 2 = bn (I 70) 2; omega)))
    · have q' : ndd (I 70) k (bn (I 70) 2) ≤ 9 := q
      rw [if_pos q'] at hQ
      exact hQ.z
    · have q' : ¬ ndd (I 70) k (bn (I 70) 2) ≤ 9 := q
      rw [if_neg q'] at hQ
      exact hQ.r
  · rw [q146, if_neg (by exact h)] at hQ
    exact K312_15 hL (nno rfl (E261 hL (K312_23 hQ.r)))
/-- a set of cousins whose patches have all rocks -/
def cov (B : Nat → Int32) (s : Nat) : Bool := decide (rset B &&& (pof B (nI s) ^^^ (-1 : Int32)) = 0)
def COV (B : Nat → Int32) : Option Nat := bs (cov B) (2 ^ bn B 3)
theorem cov_lt {B : Nat → Int32} (h : WF B) {b : Nat} (hb : COV B = some b) : b < 64 := by
  have := bs_lt hb
  have := pow_le h.c.2
  omega
def q151 (B : Nat → Int32) : Nat × Int32 := (if COV B = none then 8 else 0, bsI (COV B))
theorem k150 {d : Nat} {Q : XQ} {S : XS} {I : XI} {J : XJ} {r : XR} {cu su : Nat} {B : Nat → Int32} {W : Nat → Int64} (hL : LAY S r) (c : CR I J 28 B W) (hQ : QC Q S I J r (q151 B).1 (q151 B).2) :
    ∀ j i w4, i + j = 2 ^ bn B 3 → xrun z0 (xcall (d + 2)) Q 150 7 [.ref 0, .int (bsI (bs (cov B) i)), .int (nI (bsN (bs (cov B) i))), .int (nI i), w4] [] S I J r cu su
  | 0, i, w4, hi => by
    have hp := pow_le c.wf.c.2
    have e : i = 2 ^ bn B 3 := by omega
    subst e
    refine K150_7 hL (c121 (lay0_28 hL) c.n7 c.wf.c.2 (K150_15 hL (yes (Int32.le_refl _) ?_)))
    unfold q151 COV at hQ
    cases h : bs (cov B) (2 ^ bn B 3)
    · rw [h] at hQ
      exact nno rfl (E31 hL (K150_73 (K150_81 (hQ.e (ix.r I)))))
    · rw [h] at hQ
      have hb := bs_lt h
      exact yes (nI_m1 (by omega)) (E83 hL (K150_81 (hQ.e (ix.r I))))
  | j + 1, i, w4, hi => by
    have hp := pow_le c.wf.c.2
    have hs := bs_s (P := cov B) (n := i) (by omega)
    have hc := ct_6 (s := i) (by omega)
    have hn : bsN (bs (cov B) i) < 33 := by
      unfold bsN; split
      · omega
      · have := ctN_le (nI ‹Nat›) 32; omega
    have ih := fun w4 => k150 (d := d) (cu := cu) (su := su) hL c hQ j (i + 1) w4 (by omega)
    rw [hs] at ih
    refine K150_7 hL (c121 (lay0_28 hL) c.n7 c.wf.c.2 (K150_15 hL (no (by rw [nI_leI (by omega) (by omega)]; omega) (c78 (K150_22 hL ?_)))))
    rw [nI_add]
    by_cases q : ctN (nI i) 32 < bsN (bs (cov B) i)
    · refine no (by rw [nI_leI (by omega) (by omega)]; omega) (c99 (lay0_28 hL) c (K150_37 hL (c124 (lay0_28 hL) c (K150_45 ?_))))
      rw [nI_add]
      by_cases q2 : cov B i = true
      · have q3 := q2
        unfold cov at q3
        rw [decide_eq_true_eq] at q3
        have := ih (.int (nI (ctN (nI i) 32)))
        rw [if_pos ⟨q, q2⟩] at this
        exact nno q3 this
      · have q3 := q2
        unfold cov at q3
        rw [decide_eq_true_eq] at q3
        have := ih (.int (nI (ctN (nI i) 32)))
        rw [if_neg (fun h => q2 h.2)] at this
        exact yes q3 this
    · refine yes (by rw [nI_leI (by omega) (by omega)]; omega) ?_
      have := ih (.int (nI (ctN (nI i) 32)))
      rw [if_neg (fun h => q h.1)] at this
      exact this
theorem c150 {d : Nat} {Q : XQ} {S : XS} {I : XI} {J : XJ} {r : XR} {B : Nat → Int32} {W : Nat → Int64} (hL : LAY S r) (c : CR I J 28 B W) (hQ : QC Q S I J r (q151 B).1 (q151 B).2) : xcall (d + 3) 150 [.ref 0] S I J r Q :=
  E150 (k150 hL c hQ (2 ^ bn B 3) 0 _ (by omega))
theorem c151 {d : Nat} {Q : XQ} {S : XS} {I : XI} {J : XJ} {r : XR} {B : Nat → Int32} {W : Nat → Int64} (hL : LAY S r) (c : CR I J 28 B W) (hQ : QC Q S I J r (q151 B).1 (q151 B).2) : xcall (d + 4) 151 [.ref 0] S I J r Q :=
  E151 hL (c150 hL c (fun I' h1 h2 => K151_4 (hQ I' h1 h2)))
def q149 (B : Nat → Int32) : Nat × Int32 := match COV B with
  | none => (8, -1)
  | some b => (0, nI (ctN (nI b) 32))
theorem c149 {d : Nat} {Q : XQ} {S : XS} {I : XI} {J : XJ} {r : XR} {B : Nat → Int32} {W : Nat → Int64} (hL : LAY S r) (c : CR I J 28 B W) (hQ : QC Q S I J r (q149 B).1 (q149 B).2) : xcall (d + 4) 149 [.ref 0] S I J r Q := by
  refine E149 hL (c150 hL c (fun I' h1 h2 => K149_4 ?_))
  unfold q151 at h2 ⊢
  unfold q149 at hQ
  cases q : COV B
  · rw [q] at hQ h2
    exact nno rfl (K149_22 (hQ I' h1 h2))
  · rw [q] at hQ h2
    have := cov_lt c.wf q
    exact yes (nI_m1 (by omega)) (c78 (K149_19 hL (E83 hL (K149_22 (hQ.e h1)))))
theorem k317p {d : Nat} {Q : XQ} {S : XS} {I : XI} {J : XJ} {r : XR} {cu su : Nat} {w1 : Value} {x2 : Int32} (hL : LAY S r) (w : WF (I 70)) (hK : xcall (d + 3) 263 [.ref 65] S I J r (fun v S1 I1 J1 r1 => xrun z0 (xcall (d + 3)) Q 317 78 [.ref 65, w1, .int x2, .int (pof (I 70) x2), .int (nI (bn (I 70) 3))] (v.toList ++ []) S1 I1 J1 r1 cu su)) {x1 : Int32} (hw : w1 = .int x1) :
    ∀ j i, i + j = bn (I 70) 3 → xrun z0 (xcall (d + 3)) Q 317 35 [.ref 65, w1, .int x2, .int (orN (fun k => if bt x2 k = true then pat (I 70) k else 0) i), .int (nI i)] [] S I J r cu su
  | 0, i, hi => by
    have e : i = bn (I 70) 3 := by omega
    subst e
    subst hw
    exact K317_35 hL (yes (by rw [w.c.1]; exact Int32.le_refl _) hK)
  | j + 1, i, hi => by
    have hb := w.c.2
    have ih := k317p (d := d) (cu := cu) (su := su) hL w hK hw j (i + 1) (by omega)
    rw [orN] at ih
    subst hw
    refine K317_35 hL (no (by rw [w.c.1, nI_leI (by omega) (by omega)]; omega) (c250 (by omega) (fun q => K317_53 hL (no (by decide) (r270 hL w (by omega) (K317_62 ?_)))) (fun q => K317_53 hL (yes rfl ?_))))
    · rw [if_pos q] at ih
      rw [nI_add]; exact ih
    · rw [if_neg (by rw [q]; decide)] at ih
      rw [nI_add]; exact ih
theorem k317 {d : Nat} {Q : XQ} {S : XS} {I : XI} {J : XJ} {r : XR} {cu su : Nat} (hL : LAY S r) (w : WF (I 70)) (hQ : Q (some (.int (bsI (COV (I 70))))) S I J r) :
    ∀ j i w3 w4, i + j = 2 ^ bn (I 70) 3 → xrun z0 (xcall (d + 3)) Q 317 4 [.ref 65, .int (bsI (bs (cov (I 70)) i)), .int (nI i), w3, w4] [] S I J r cu su
  | 0, i, w3, w4, hi => by
    have hp := pow_le w.c.2
    have hp0 : 0 < 2 ^ bn (I 70) 3 := Nat.two_pow_pos _
    have e : i = 2 ^ bn (I 70) 3 := by omega
    subst e
    exact K317_4 hL (r292 hL w (K317_9 (yes (by rw [nI_ltI (by omega) (by omega)]; omega) hQ)))
  | j + 1, i, w3, w4, hi => by
    have hp := pow_le w.c.2
    have hp0 : 0 < 2 ^ bn (I 70) 3 := Nat.two_pow_pos _
    have hs := bs_s (P := cov (I 70)) (n := i) (by omega)
    have hc := ct_6 (s := i) (by omega)
    have ih := fun w3 w4 => k317 (d := d) (cu := cu) (su := su) hL w hQ j (i + 1) w3 w4 (by omega)
    rw [hs] at ih
    have go : ctN (nI i) 32 < bsN (bs (cov (I 70)) i) → xrun z0 (xcall (d + 3)) Q 317 35 [.ref 65, .int (bsI (bs (cov (I 70)) i)), .int (nI i), .int (nI 0), .int (nI 0)] [] S I J r cu su := fun q => by
      refine k317p hL w (r263 hL w (K317_78 ?_)) rfl (bn (I 70) 3) 0 (by omega)
      rw [nI_add]
      by_cases q2 : cov (I 70) i = true
      · have q3 := q2
        unfold cov at q3
        rw [decide_eq_true_eq] at q3
        have := ih (.int (pof (I 70) (nI i))) (.int (nI (bn (I 70) 3)))
        rw [if_pos ⟨q, q2⟩] at this
        exact nno q3 this
      · have q3 := q2
        unfold cov at q3
        rw [decide_eq_true_eq] at q3
        have := ih (.int (pof (I 70) (nI i))) (.int (nI (bn (I 70) 3)))
        rw [if_neg (fun h => q2 h.2)] at this
        exact yes q3 this
    refine K317_4 hL (r292 hL w (K317_9 (no (by rw [nI_ltI (by omega) (by omega)]; omega) ?_)))
    cases hb : bs (cov (I 70)) i
    · rw [hb] at go
      exact yes (by decide) (go (by show _ < 7; omega))
    · rename_i b
      have hbl := bs_lt hb
      rw [hb] at go ih
      rw [show bsN (some b) = ctN (nI b) 32 from rfl] at go
      rw [show bsI (some b) = nI b from rfl] at go ⊢
      have h30 := ct_set (s := i) (by omega)
      have h30' := ct_set (s := b) (by omega)
      have l1 := ctN_le (nI i) 30
      have l2 := ctN_le (nI b) 30
      refine no (nI_pos (by omega)) (c282 (K317_20 (c282 (K317_24 ?_))))
      by_cases q : ctN (nI i) 32 < ctN (nI b) 32
      · exact yes (by rw [nI_ltI (by omega) (by omega)]; omega) (go q)
      · refine no (by rw [nI_ltI (by omega) (by omega)]; omega) ?_
        have := ih w3 w4
        rw [if_neg (fun h => q h.1)] at this
        rw [nI_add]; exact this
theorem r317 {d : Nat} {Q : XQ} {S : XS} {I : XI} {J : XJ} {r : XR} (hL : LAY S r) (w : WF (I 70)) (hQ : Q (some (.int (bsI (COV (I 70))))) S I J r) : xcall (d + 4) 317 [.ref 65] S I J r Q :=
  E317 (k317 hL w hQ (2 ^ bn (I 70) 3) 0 _ _ (by omega))
theorem r318 {d : Nat} {Q : XQ} {S : XS} {I : XI} {J : XJ} {r : XR} (hL : LAY S r) (w : WF (I 70)) (hQ : QM Q S I J r (q151 (I 70)).1 (q151 (I 70)).2) : xcall (d + 5) 318 [.ref 65] S I J r Q := by
  refine E318 hL (r317 hL w ?_)
  show xrun z0 _ Q 318 14 [_, _] [.int (bsI (COV (I 70)))] S (m2 I) J r _ _
  refine K318_14 hL ?_
  unfold q151 at hQ
  cases q : COV (I 70)
  · rw [q] at hQ
    exact no (by decide) (E261 hL (K318_25 hQ.r))
  · rw [q] at hQ
    have := cov_lt w q
    exact yes (nI_pos' (by omega)) hQ.z
theorem r316 {d : Nat} {Q : XQ} {S : XS} {I : XI} {J : XJ} {r : XR} (hL : LAY S r) (w : WF (I 70)) (hQ : QM Q S I J r (q149 (I 70)).1 (q149 (I 70)).2) : xcall (d + 5) 316 [.ref 65] S I J r Q := by
  refine E316 hL (r317 hL w ?_)
  show xrun z0 _ Q 316 14 [_, _] [.int (bsI (COV (I 70)))] S (m2 I) J r _ _
  refine K316_14 hL ?_
  unfold q149 at hQ
  cases q : COV (I 70)
  · rw [q] at hQ
    exact no (by decide) (E261 hL (K316_25 (K316_32 hQ.r)))
  · rw [q] at hQ
    have h64 := cov_lt w q
    refine yes (nI_pos' (by omega)) (c282 (K316_32 ?_))
    show Q (some (.int (nI (ctN (nI _) 30)))) S (m2 I) J r
    rw [← ct_set h64]
    exact hQ.z
