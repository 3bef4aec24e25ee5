/-! parts keep coasts well formed; faults are faults -/
theorem WF.sz {w h : Nat} {B : Nat → Int32} (wf : WF B) (h2 : bn B 2 = 0) (h3 : bn B 3 = 0) (hw : 1 ≤ w ∧ w ≤ 6) (hh : 1 ≤ h ∧ h ≤ 5) : WF (ub (ub B 0 (nI w)) 1 (nI h)) := by
  have o : ∀ j, j ≠ 0 → j ≠ 1 → ub (ub B 0 (nI w)) 1 (nI h) j = B j := fun j h1 h2 => by rw [ub_o h2, ub_o h1]
  have e2 : bn (ub (ub B 0 (nI w)) 1 (nI h)) 2 = 0 := by unfold bn; rw [o 2 (by decide) (by decide)]; exact h2
  have e3 : bn (ub (ub B 0 (nI w)) 1 (nI h)) 3 = 0 := by unfold bn; rw [o 3 (by decide) (by decide)]; exact h3
  refine ⟨?_, ?_, ?_, ?_, ?_, fun q hq => ?_, fun p q h1 hq => ?_, fun k hk => ?_⟩
  · rw [ub_o (by decide), ub_e]; exact rg_nI hw.1 hw.2 (by decide)
  · rw [ub_e]; exact rg_nI hh.1 hh.2 (by decide)
  · rw [o 2 (by decide) (by decide)]; exact wf.2.2.1
  · rw [o 3 (by decide) (by decide)]; exact wf.2.2.2.1
  · rw [o 4 (by decide) (by decide)]; exact wf.2.2.2.2.1
  · rw [e2] at hq; omega
  · rw [e2] at hq; omega
  · rw [e3] at hk; omega
/-- an end is well: its fault is one, its coast is one -/
def wl (o : CO) : Prop := match o with
  | .error e => 0 < e.1 ∧ e.1 < 100
  | .ok o => WF o.2.1
theorem wl_e {k s : Nat} (h : 0 < k ∧ k < 100) : wl (.error (k, s)) := h
theorem wl_num {n s lo hi : Nat} {F : Nat → Int32} {K : Nat → Nat → CO} (h : sN F n s lo hi = 0 → lo ≤ nm F n s → nm F n s ≤ hi → wl (K (nm F n s) (nxt F n s))) : wl (pNum F n s lo hi K) := by
  by_cases q : sN F n s lo hi = 0
  · rw [pNum_o q]; exact h q (sN_0 q).2.1 (sN_0 q).2.2
  · rw [pNum_e q]; exact ⟨sN_p q, sN_le⟩
theorem wl_wrd {n s k : Nat} {F : Nat → Int32} {K : Nat → CO} (h : wl (K (nxt F n s))) : wl (pWrd F n s k K) := by
  cases e : isW F n s k
  · rw [pWrd_e e]; exact am_le
  · rw [pWrd_o e]; exact h
theorem wl_sem {n : Nat} {F : Nat → Int32} {o : CO} (h : wl o) : wl (sem F n o) := by
  cases o with
  | error e => exact h
  | ok o =>
    obtain ⟨s, B, W⟩ := o
    cases e : isC F n s
    · rw [sem_e e]; exact am_le
    · rw [sem_o e]; exact h
theorem wl_size {n s : Nat} {F B : Nat → Int32} {W : Nat → Int64} {t : Bool} (w : WF B) : wl (pSize F n s B W t) := by
  unfold pSize
  split
  · exact wl_e (by decide)
  · rename_i h
    have h2 : bn B 2 = 0 := Decidable.byContradiction (fun e => h (Or.inr (Or.inl e)))
    have h3 : bn B 3 = 0 := Decidable.byContradiction (fun e => h (Or.inr (Or.inr e)))
    exact wl_num (fun _ a1 a2 => wl_wrd (wl_num (fun _ a3 a4 => w.sz h2 h3 ⟨a1, a2⟩ ⟨a3, a4⟩)))
theorem WF.o4 {B : Nat → Int32} (w : WF B) {o : Nat} (ho : o ≤ 16) : WF (ub B 4 (nI o)) := w.of (fun j h1 h2 h3 h4 => ub_o h2) (rg_nI (Nat.zero_le _) ho (by decide)) (fun k hk => by
  have hc := w.c.2
  rw [ub_o (by omega), ub_o (by omega), ub_o (by omega)]
  exact (w.pw hk).2.2.2)
theorem wl_odds {n s : Nat} {F B : Nat → Int32} {W : Nat → Int64} {t : Bool} (w : WF B) : wl (pOdds F n s B W t) := by
  unfold pOdds
  split
  · exact wl_e (by decide)
  · exact wl_num (fun _ a1 a2 => w.o4 a2)
theorem wl_rock {n s : Nat} {F B : Nat → Int32} {W : Nat → Int64} (w : WF B) : wl (pRock F n s B W) := by
  have hb := w.r.2
  have hce := ce_le w
  unfold pRock
  split
  · exact wl_e (by decide)
  · refine wl_num (fun _ a1 a2 => ?_)
    split
    · exact wl_e (by decide)
    · rename_i h15 hr
      exact wl_wrd (wl_num (fun _ a3 a4 => w.rk (by omega) (by omega) a4 (fun q hq e => hr (rkd_t.mpr ⟨q, hq, e⟩))))
theorem wl_ink {n k : Nat} {F : Nat → Int32} {W : Nat → Int64} : ∀ j s (B : Nat → Int32), WF B → k < bn B 3 → wl (pInkL F n k W j s B)
  | 0, s, B, w, hk => w
  | j + 1, s, B, w, hk => by
    rw [pInkL]
    split
    · split
      · rename_i q1 q2
        split
        · exact wl_e (by decide)
        · rename_i q3
          split
          · exact wl_e (by decide)
          · rename_i q4
            have ik := w.ik1 hk q2.2 (Bool.eq_false_iff.mpr q3) q4
            have hb := w.c.2
            exact wl_ink j _ _ (w.ink hk ik.1 ik.2) (by unfold bn; rw [ub_o (by omega)]; exact hk)
      · exact wl_e (by decide)
    · exact w
theorem wl_tan {n k s : Nat} {F B : Nat → Int32} {W : Nat → Int64} (w : WF B) (hk : k < bn B 3) : wl (pTan F n k s B W) := by
  have hb := w.c.2
  have ink : ∀ s (B : Nat → Int32), WF B → k < bn B 3 → wl (pInk F n k s B W) := fun s B w hk => by
    unfold pInk
    split
    · exact wl_ink _ _ _ w hk
    · exact w
  have veil : ∀ s (B : Nat → Int32), WF B → k < bn B 3 → wl (pVeil F n k s B W) := fun s B w hk => by
    have hb := w.c.2
    unfold pVeil
    split
    · exact ink _ _ (w.veil hk (Or.inr rfl)) (by unfold bn; rw [ub_o (by omega)]; exact hk)
    · exact ink _ _ w hk
  unfold pTan
  split
  · exact wl_num (fun _ a1 a2 => veil _ _ (w.tan hk a2) (by unfold bn; rw [ub_o (by omega)]; exact hk))
  · exact veil _ _ w hk
theorem wl_bnd {o : CO} {K : Nat → (Nat → Int32) → (Nat → Int64) → CO} (h : wl o) (h2 : ∀ s B W, o = .ok (s, B, W) → WF B → wl (K s B W)) : wl (bnd o K) := by
  cases o with
  | error e => exact h
  | ok o =>
    obtain ⟨s, B, W⟩ := o
    exact h2 s B W rfl h
theorem wl_patch {n s : Nat} {F B : Nat → Int32} {W : Nat → Int64} (w : WF B) (h6 : bn B 3 < 6) : wl (pPatch F n s B W) := by
  have hce := ce_le w
  have hw := w.w
  unfold pPatch
  refine wl_wrd (wl_num (fun _ a1 a2 => wl_wrd (wl_num (fun _ a3 a4 => wl_wrd (wl_num (fun _ a5 a6 => ?_))))))
  have hm : nm F n (nxt F n s) % bn B 0 < bn B 0 := Nat.mod_lt _ (by omega)
  have hd : nm F n (nxt F n s) / bn B 0 < bn B 1 := by rw [Nat.div_lt_iff_lt_mul (by omega), Nat.mul_comm]; unfold ce at *; omega
  exact w.nw h6 (by omega) ⟨a3, by omega⟩ ⟨a5, by omega⟩
theorem wl_cousin {n s : Nat} {F B : Nat → Int32} {W : Nat → Int64} (w : WF B) : wl (pCousin F n s B W) := by
  have hb := w.c.2
  unfold pCousin
  split
  · exact wl_e (by decide)
  · split
    · exact am_le
    · split
      · exact wl_e (by decide)
      · refine wl_bnd (wl_patch w (by omega)) (fun s' B' W' h w' => wl_tan w' ?_)
        obtain ⟨c, p, q, e⟩ := pPatch_ok h
        rw [e, bn_nw (by omega)]
        omega
