/-! the coast's text leaves the years' words empty -/
def zB (B : Nat → Int32) : Prop := ∀ j, 73 ≤ j → B j = 0
def zl (o : CO) : Prop := match o with
  | .error _ => True
  | .ok o => zB o.2.1
def zc (o : CE) : Prop := match o with
  | .error _ => True
  | .ok o => zB o.1
theorem zB.u {B : Nat → Int32} {i : Nat} {v : Int32} (h : zB B) (hi : i < 73) : zB (ub B i v) := fun j hj => by rw [ub_o (by omega)]; exact h j hj
theorem zl_num {n s lo hi : Nat} {F : Nat → Int32} {K : Nat → Nat → CO} (h : zl (K (nm F n s) (nxt F n s))) : zl (pNum F n s lo hi K) := by
  by_cases q : sN F n s lo hi = 0
  · rw [pNum_o q]; exact h
  · rw [pNum_e q]; exact trivial
theorem zl_wrd {n s k : Nat} {F : Nat → Int32} {K : Nat → CO} (h : zl (K (nxt F n s))) : zl (pWrd F n s k K) := by
  cases e : isW F n s k
  · rw [pWrd_e e]; exact trivial
  · rw [pWrd_o e]; exact h
theorem zl_sem {n : Nat} {F : Nat → Int32} {o : CO} (h : zl o) : zl (sem F n o) := by
  cases o with
  | error e => exact h
  | ok o =>
    obtain ⟨s, B, W⟩ := o
    cases e : isC F n s
    · rw [sem_e e]; exact trivial
    · rw [sem_o e]; exact h
theorem zl_size {n s : Nat} {F B : Nat → Int32} {W : Nat → Int64} {t : Bool} (z : zB B) : zl (pSize F n s B W t) := by
  unfold pSize
  split
  · exact trivial
  · exact zl_num (zl_wrd (zl_num ((z.u (by decide)).u (by decide))))
theorem zl_odds {n s : Nat} {F B : Nat → Int32} {W : Nat → Int64} {t : Bool} (z : zB B) : zl (pOdds F n s B W t) := by
  unfold pOdds
  split
  · exact trivial
  · exact zl_num (z.u (by decide))
theorem zl_rock {n s : Nat} {F B : Nat → Int32} {W : Nat → Int64} (w : WF B) (z : zB B) : zl (pRock F n s B W) := by
  have hb := w.r.2
  unfold pRock
  split
  · exact trivial
  · refine zl_num ?_
    split
    · exact trivial
    · refine zl_wrd (zl_num (fun j hj => ?_))
      show rkB B _ _ j = 0
      rw [rkB_o (by omega) (by omega) (by omega)]
      exact z j hj
theorem zl_ink {n k : Nat} {F : Nat → Int32} {W : Nat → Int64} (hk : k < 6) : ∀ j s (B : Nat → Int32), zB B → zl (pInkL F n k W j s B)
  | 0, s, B, z => z
  | j + 1, s, B, z => by
    rw [pInkL]
    split
    · split
      · split
        · exact trivial
        · split
          · exact trivial
          · exact zl_ink hk j _ _ (z.u (by omega))
      · exact trivial
    · exact z
theorem zl_tan {n k s : Nat} {F B : Nat → Int32} {W : Nat → Int64} (hk : k < 6) (z : zB B) : zl (pTan F n k s B W) := by
  have ink : ∀ s (B : Nat → Int32), zB B → zl (pInk F n k s B W) := fun s B z => by
    unfold pInk
    split
    · exact zl_ink hk _ _ _ z
    · exact z
  have veil : ∀ s (B : Nat → Int32), zB B → zl (pVeil F n k s B W) := fun s B z => by
    unfold pVeil
    split
    · exact ink _ _ (z.u (by omega))
    · exact ink _ _ z
  unfold pTan
  split
  · exact zl_num (veil _ _ (z.u (by omega)))
  · exact veil _ _ z
theorem zl_bnd {o : CO} {K : Nat → (Nat → Int32) → (Nat → Int64) → CO} (h : zl o) (h2 : ∀ s B W, zB B → zl (K s B W)) : zl (bnd o K) := by
  cases o with
  | error e => exact trivial
  | ok o =>
    obtain ⟨s, B, W⟩ := o
    exact h2 s B W h
theorem zl_patch {n s : Nat} {F B : Nat → Int32} {W : Nat → Int64} (z : zB B) (h6 : bn B 3 < 6) : zl (pPatch F n s B W) := by
  unfold pPatch
  refine zl_wrd (zl_num (zl_wrd (zl_num (zl_wrd (zl_num (fun j hj => ?_))))))
  show nwB B _ _ _ j = 0
  rw [nwB_o (by omega) ⟨by omega, by omega, by omega, by omega, by omega, by omega⟩]
  exact z j hj
theorem zl_cousin {n s : Nat} {F B : Nat → Int32} {W : Nat → Int64} (w : WF B) (z : zB B) : zl (pCousin F n s B W) := by
  have hb := w.c.2
  unfold pCousin
  split
  · exact trivial
  · split
    · exact trivial
    · split
      · exact trivial
      · exact zl_bnd (zl_patch z (by omega)) (fun s' B' W' z' => zl_tan (by omega) z')
theorem zc_main {n : Nat} {F : Nat → Int32} : ∀ j s (B : Nat → Int32) (W : Nat → Int64) (t1 t2 : Bool), WF B → zB B → zc (pMain F n j s B W t1 t2)
  | 0, s, B, W, t1, t2, w, z => z
  | j + 1, s, B, W, t1, t2, w, z => by
    have key : ∀ (o : CO) (t1 t2 : Bool), wl o → zl o → zc (match o with
      | .error e => .error e
      | .ok (s', B', W') => pMain F n j s' B' W' t1 t2) := fun o t1 t2 a b => by
      cases o with
      | error e => exact trivial
      | ok o =>
        obtain ⟨s', B', W'⟩ := o
        exact zc_main j s' B' W' t1 t2 a b
    rw [pMain]
    split
    · exact z
    split
    · exact key _ _ _ (wl_sem (wl_size w)) (zl_sem (zl_size z))
    split
    · exact key _ _ _ (wl_sem (wl_odds w)) (zl_sem (zl_odds z))
    split
    · exact key _ _ _ (wl_sem (wl_rock w)) (zl_sem (zl_rock w z))
    split
    · exact key _ _ _ (wl_sem (wl_cousin w)) (zl_sem (zl_cousin w z))
    · exact trivial
theorem pCoast_z {n : Nat} {F B : Nat → Int32} {W : Nat → Int64} (h : pCoast F n = .ok (B, W)) : ∀ j, 73 ≤ j → B j = 0 := by
  have k := zc_main (F := F) (n := n) 900 (skp F n 0) B0 (fun _ => 0) false false B0_wf (fun j hj => B0_z (by omega))
  unfold pCoast at h
  rw [h] at k
  exact k
/-- the end of a text on both sides -/
theorem INV.tx {S : XS} {I I2 : XI} {J J2 : XJ} {r : XR} {n : Nat} {F : Nat → Int32} {m c : Nat} {st k p : Int32} (h : INV S I J r n F m c) (cyr : CYR I2 J2 28 (I2 70) (J2 72)) (hi : ∀ q i, scr q i = false → q ≠ 65 → q ≠ 70 → ¬ (q = 0 ∧ (i = 12 ∨ i = 14 ∨ i = 15)) → ¬ (28 ≤ q ∧ q ≤ 45) → I2 q i = I q i) (h70 : ∀ k, 345 ≤ k → k < 1380 → I2 70 k = I 70 k) (h23 : I2 65 23 = I 65 23) (h32 : I2 65 32 = I 65 32) (hj : ∀ q i, ¬ (q = 13 ∨ q = 16 ∨ q = 32 ∨ q = 50 ∨ (q = 65 ∧ i = 19) ∨ (q = 72 ∧ (i < 6 ∨ 24 ≤ i))) → J2 q i = J q i) (f : ft I2 st k p) (g : gt I2 st k p) : INV S I2 J2 r 0 F m c := by
  have e := fun q i a b d => hi q i a b d
  refine h.go cyr (h.tr.cg (fun q i hq => hi q i (by rcases hq with rfl | rfl | rfl | rfl <;> rfl) (by omega) (by omega) (by omega) (by omega)) (fun q i hq => hj q i (by omega))) ⟨⟨f.2.1, fun i hi => absurd hi (by omega)⟩, ⟨g.2.1, fun i hi => absurd hi (by omega)⟩, by decide, fun i hi => absurd hi (by omega)⟩ ⟨f.1.trans g.1.symm, f.2.2.1.trans g.2.2.1.symm, f.2.2.2.trans g.2.2.2.symm, ?_, ?_⟩ (h.lv.cg (hi 0 16 rfl (by decide) (by decide) (by omega) (by omega)) h32 (fun i => hi 27 i rfl (by decide) (by decide) (by omega) (by omega)) (fun i => hi 75 i rfl (by decide) (by decide) (by omega) (by omega))) ⟨hi 0 11 rfl (by decide) (by decide) (by omega) (by omega), h23, fun q hq => ⟨funext fun i => hi q i (scr_hi hq) (by omega) (by omega) (by omega) (by omega), funext fun i => hj q i (by omega)⟩, h70, fun k a b => hj 72 k (by omega)⟩
  · rw [hj 1 0 (by omega), hj 65 2 (by omega)]; exact h.sf.2.2.2.1
  · rw [hj 1 1 (by omega), hj 65 3 (by omega)]; exact h.sf.2.2.2.2
theorem scr_c {q i : Nat} (h : 27 ≤ q) (h2 : q ≤ 45) : scr q i = false := by
  have : q = 27 ∨ q = 28 ∨ q = 29 ∨ q = 30 ∨ q = 31 ∨ q = 32 ∨ q = 33 ∨ q = 34 ∨ q = 35 ∨ q = 36 ∨ q = 37 ∨ q = 38 ∨ q = 39 ∨ q = 40 ∨ q = 41 ∨ q = 42 ∨ q = 43 ∨ q = 44 ∨ q = 45 := by omega
  rcases this with rfl | rfl | rfl | rfl | rfl | rfl | rfl | rfl | rfl | rfl | rfl | rfl | rfl | rfl | rfl | rfl | rfl | rfl | rfl <;> rfl
/-- a fault on both sides: the coast stays -/
theorem INV.er {S : XS} {I I1 I2 : XI} {J J1 J2 : XJ} {r : XR} {n : Nat} {F : Nat → Int32} {m c : Nat} {st k p : Int32} (h : INV S I J r n F m c) (k1 : ke I I1) (j1 : ∀ q, q ≠ 13 → q ≠ 50 → q ≠ 16 → J1 q = J q) (f : ft I1 st k p) (k2 : kym I1 I2) (j2 : kmj J1 J2) (g : gt I2 st k p) : INV S I2 J2 r 0 F m c := by
  have hj : ∀ q i, ¬ (q = 13 ∨ q = 16 ∨ q = 50 ∨ (q = 65 ∧ i = 19) ∨ (q = 72 ∧ 24 ≤ i)) → J2 q i = J q i := fun q i hq => by rw [j2 q i (by omega) (by omega), j1 q (by omega) (by omega) (by omega)]
  have hi : ∀ q i, scr q i = false → q ≠ 65 → q ≠ 70 → ¬ (q = 0 ∧ (i = 12 ∨ i = 14 ∨ i = 15)) → I2 q i = I q i := fun q i a b d e => (k2.1 q i b d).trans (k1 q i a e)
  have h70 : ∀ k, k < 1380 → I2 70 k = I 70 k := fun k hk => (k2.2.1 k hk).trans (k1 70 k rfl (by omega))
  refine h.tx (h.2.1.fr (fun q a b => funext fun i => hi q i (scr_c (by omega) (by omega)) (by omega) (by omega) (by omega)) (funext fun i => hj 32 i (by omega)) (fun i hi => h70 i (by omega)) (fun k hk => hj 72 k (by omega))) (fun q i a b d e _ => hi q i a b d e) (fun k _ b => h70 k b) (k2.2.2.1.trans (k1 65 23 rfl (by omega))) (k2.2.2.2.trans (k1 65 32 rfl (by omega))) (fun q i hq => hj q i (by omega)) ?_ g
  exact ⟨(k2.1 0 13 (by decide) (by decide)).trans f.1, (k2.1 0 12 (by decide) (by decide)).trans f.2.1, (k2.1 0 14 (by decide) (by decide)).trans f.2.2.1, (k2.1 0 15 (by decide) (by decide)).trans f.2.2.2⟩
/-- a coast read on both sides -/
theorem INV.co {S : XS} {I I1 I2 : XI} {J J1 J2 : XJ} {r : XR} {n N : Nat} {F B : Nat → Int32} {W : Nat → Int64} {m c : Nat} {st k p : Int32} (h : INV S I J r n F m c) (hp : pCoast F N = .ok (B, W)) (k1 : ko I I1) (j1 : ∀ q, q ≠ 13 → q ≠ 50 → q ≠ 32 → J1 q = J q) (f : ft I1 st k p) (cr : CR I1 J1 28 B W) (y0 : I1 39 0 = 0) (k2 : kmo I1 I2) (j2 : ∀ y k, ¬ (y = 65 ∧ k = 19) → ¬ (y = 72 ∧ (k < 6 ∨ 24 ≤ k)) → J2 y k = J1 y k) (g : gt I2 st k p) (hb : ∀ i, i < 345 → I2 70 i = B i) (hw : ∀ k, k < bn B 3 → J2 72 k = W k) : INV S I2 J2 r 0 F m c := by
  have hj : ∀ q i, ¬ (q = 13 ∨ q = 16 ∨ q = 32 ∨ q = 50 ∨ (q = 65 ∧ i = 19) ∨ (q = 72 ∧ (i < 6 ∨ 24 ≤ i))) → J2 q i = J q i := fun q i hq => by rw [j2 q i (by omega) (by omega), j1 q (by omega) (by omega) (by omega)]
  have hi : ∀ q i, scr q i = false → q ≠ 65 → q ≠ 70 → ¬ (q = 0 ∧ (i = 12 ∨ i = 14 ∨ i = 15)) → ¬ (28 ≤ q ∧ q ≤ 45) → I2 q i = I q i := fun q i a b d e e2 => (k2.1 q i b d).trans (k1 q i a e e2)
  refine h.tx ⟨(cr.frJ (fun q a b => funext fun i => k2.1 q i (by omega) (by omega)) (funext fun i => j2 32 i (by omega) (by omega))).cg (fun i hi => hb i (by omega)) hw, Or.inl ⟨(k2.1 39 0 (by decide) (by decide)).trans y0, (hb 73 (by decide)).trans (pCoast_z hp 73 (by decide))⟩⟩ hi (fun k a b => (k2.2.1 k a b).trans (k1 70 k rfl (by omega) (by omega))) (k2.2.2.1.trans (k1 65 23 rfl (by omega) (by omega))) (k2.2.2.2.trans (k1 65 32 rfl (by omega) (by omega))) hj ?_ g
  exact ⟨(k2.1 0 13 (by decide) (by decide)).trans f.1, (k2.1 0 12 (by decide) (by decide)).trans f.2.1, (k2.1 0 14 (by decide) (by decide)).trans f.2.2.1, (k2.1 0 15 (by decide) (by decide)).trans f.2.2.2⟩
/-- years read on both sides -/
theorem INV.ye {S : XS} {I I1 I2 : XI} {J J1 J2 : XJ} {r : XR} {n N L T : Nat} {F : Nat → Int32} {Y : YY} {m c : Nat} {st k p : Int32} (h : INV S I J r n F m c) (hp : pYears F N (bn (I 70) 3) (ce (I 70)) (J 72) = .ok (L, T, Y)) (k1 : kyo I I1) (j1 : yj J J1) (f : ft I1 st k p) (ya : YA I1 39 L T Y) (k2 : kyr I1 I2) (j2 : jk 65 19 J1 J2) (g : gt I2 st k p) (e73 : I2 70 73 = 1) (e74 : I2 70 74 = nI T) (ym : YM (I2 70) 75 L Y) : INV S I2 J2 r 0 F m c := by
  have hj : ∀ q i, ¬ (q = 13 ∨ q = 16 ∨ q = 50 ∨ (q = 65 ∧ i = 19) ∨ (q = 72 ∧ 24 ≤ i)) → J2 q i = J q i := fun q i hq => by rw [j2 q i (by omega), j1 q (by omega)]
  have hi : ∀ q i, scr q i = false → q ≠ 65 → q ≠ 70 → ¬ (q = 0 ∧ (i = 12 ∨ i = 14 ∨ i = 15)) → ¬ (39 ≤ q ∧ q ≤ 45) → I2 q i = I q i := fun q i a b d e e2 => (k2.1 q i b d).trans (k1 q i a e e2)
  have h70 : ∀ k, k < 73 ∨ (345 ≤ k ∧ k < 1380) → I2 70 k = I 70 k := fun k hk => (k2.2.1 k hk).trans (k1 70 k rfl (by omega) (by omega))
  have h1 : 1 ≤ ce (I 70) := by
    have hw := h.wf.w
    have hh := h.wf.h
    unfold ce
    exact Nat.mul_pos hw.2.1 hh.2.1
  have pg := pYears_pg h1 hp
  refine h.tx ⟨(h.cr.frJ (fun q a b => funext fun i => hi q i (scr_c (by omega) (by omega)) (by omega) (by omega) (by omega) (by omega)) (funext fun i => hj 32 i (by omega))).cg (fun i hi => h70 i (by omega)) (fun k hk => ?_), Or.inr ⟨L, T, Y, ya.k (fun x a b => funext fun i => k2.1 x i (by omega) (by omega)), e73, e74, ym, ?_⟩⟩ (fun q i a b d e e2 => hi q i a b d e (by omega)) (fun k a b => h70 k (by omega)) (k2.2.2.1.trans (k1 65 23 rfl (by omega) (by omega))) (k2.2.2.2.trans (k1 65 32 rfl (by omega) (by omega))) (fun q i hq => hj q i (by omega)) ?_ g
  · have hc := h.wf.c.2
    exact hj 72 k (by omega)
  · rw [bn_c (h70 3 (by decide)), show ce (I2 70) = ce (I 70) from ce_cg (fun j hj => h70 j (by omega))]
    exact pg
  · exact ⟨(k2.1 0 13 (by decide) (by decide)).trans f.1, (k2.1 0 12 (by decide) (by decide)).trans f.2.1, (k2.1 0 14 (by decide) (by decide)).trans f.2.2.1, (k2.1 0 15 (by decide) (by decide)).trans f.2.2.2⟩
