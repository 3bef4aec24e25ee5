/-! the whole of a coast's text -/
def good (s0 n : Nat) (o : CO) : Prop := ∀ s B W, o = .ok (s, B, W) → s0 ≤ s ∧ s ≤ n
theorem gd_e {s0 n : Nat} {e : Nat × Nat} : good s0 n (.error e) := fun _ _ _ h => by cases h
theorem gd_o {s0 n s : Nat} {B : Nat → Int32} {W : Nat → Int64} (h1 : s0 ≤ s) (h2 : s ≤ n) : good s0 n (.ok (s, B, W)) := fun _ _ _ h => by cases h; exact ⟨h1, h2⟩
theorem gd_num {s0 n s lo hi : Nat} {F : Nat → Int32} {K : Nat → Nat → CO} (h2 : s ≤ n) (h : ∀ m, good s0 n (K m (nxt F n s))) : good s0 n (pNum F n s lo hi K) := by
  unfold pNum
  split
  · exact h _
  · exact gd_e
theorem gd_wrd {s0 n s k : Nat} {F : Nat → Int32} {K : Nat → CO} (h : good s0 n (K (nxt F n s))) : good s0 n (pWrd F n s k K) := by
  unfold pWrd
  split
  · exact h
  · exact gd_e
theorem gd_if {s0 n : Nat} {c : Prop} [Decidable c] {a b : CO} (h1 : good s0 n a) (h2 : good s0 n b) : good s0 n (if c then a else b) := by
  split
  · exact h1
  · exact h2
theorem gd_bnd {s0 n : Nat} {o : CO} {K : Nat → (Nat → Int32) → (Nat → Int64) → CO} (h : good s0 n o) (h2 : ∀ s B W, s0 ≤ s → s ≤ n → good s0 n (K s B W)) : good s0 n (bnd o K) := by
  cases o with
  | error e => exact gd_e
  | ok o =>
    obtain ⟨s, B, W⟩ := o
    exact h2 s B W (h s B W rfl).1 (h s B W rfl).2
theorem gd_sem {s0 n : Nat} {F : Nat → Int32} {o : CO} (h : good s0 n o) : good (s0 + 1) n (sem F n o) := by
  cases o with
  | error e => exact gd_e
  | ok o =>
    obtain ⟨s, B, W⟩ := o
    have h1 := h s B W rfl
    cases e : isC F n s
    · rw [sem_e e]; exact gd_e
    · rw [sem_o e]
      have e3 := (isC_t.mp e).1
      have hlt : s < n := by
        rcases Nat.lt_or_ge s n with q | q
        · exact q
        · rw [kd_0.mpr q] at e3; cases e3
      have := nxt_le (F := F) h1.2
      exact gd_o (by have := this.2.2 hlt; omega) this.2.1
theorem gd_size {n s : Nat} {F B : Nat → Int32} {W : Nat → Int64} {t : Bool} (hs : s ≤ n) : good s n (pSize F n s B W t) := by
  have n1 := nxt_le (F := F) hs
  have n2 := nxt_le (F := F) n1.2.1
  have n3 := nxt_le (F := F) n2.2.1
  have n4 := nxt_le (F := F) n3.2.1
  exact gd_if gd_e (gd_num n1.2.1 (fun m => gd_wrd (gd_num n3.2.1 (fun m => gd_o (by omega) n4.2.1))))
theorem gd_odds {n s : Nat} {F B : Nat → Int32} {W : Nat → Int64} {t : Bool} (hs : s ≤ n) : good s n (pOdds F n s B W t) := by
  have n1 := nxt_le (F := F) hs
  have n2 := nxt_le (F := F) n1.2.1
  exact gd_if gd_e (gd_num n1.2.1 (fun m => gd_o (by omega) n2.2.1))
theorem gd_rock {n s : Nat} {F B : Nat → Int32} {W : Nat → Int64} (hs : s ≤ n) : good s n (pRock F n s B W) := by
  have n1 := nxt_le (F := F) hs
  have n2 := nxt_le (F := F) n1.2.1
  have n3 := nxt_le (F := F) n2.2.1
  have n4 := nxt_le (F := F) n3.2.1
  exact gd_if gd_e (gd_num n1.2.1 (fun m => gd_if gd_e (gd_wrd (gd_num n3.2.1 (fun m => gd_o (by omega) n4.2.1)))))
theorem gd_patch {n s : Nat} {F B : Nat → Int32} {W : Nat → Int64} (hs : s ≤ n) : good s n (pPatch F n s B W) := by
  have n1 := nxt_le (F := F) hs
  have n2 := nxt_le (F := F) n1.2.1
  have n3 := nxt_le (F := F) n2.2.1
  have n4 := nxt_le (F := F) n3.2.1
  have n5 := nxt_le (F := F) n4.2.1
  have n6 := nxt_le (F := F) n5.2.1
  exact gd_wrd (gd_num n1.2.1 (fun m => gd_wrd (gd_num n3.2.1 (fun m => gd_wrd (gd_num n5.2.1 (fun m => gd_o (by omega) n6.2.1))))))
theorem gd_ink {s0 n k : Nat} {F : Nat → Int32} {W : Nat → Int64} : ∀ j s B, s0 ≤ s → s ≤ n → good s0 n (pInkL F n k W j s B)
  | 0, s, B, h1, h2 => gd_o h1 h2
  | j + 1, s, B, h1, h2 => by
    have n1 := nxt_le (F := F) h2
    rw [pInkL]
    exact gd_if (gd_if (gd_if gd_e (gd_if gd_e (gd_ink j _ _ (by omega) n1.2.1))) gd_e) (gd_o h1 h2)
theorem gd_tan {s0 n k s : Nat} {F B : Nat → Int32} {W : Nat → Int64} (h0 : s0 ≤ s) (hs : s ≤ n) : good s0 n (pTan F n k s B W) := by
  have ink : ∀ s B, s0 ≤ s → s ≤ n → good s0 n (pInk F n k s B W) := fun s B h0 hs => by
    have n1 := nxt_le (F := F) hs
    exact gd_if (gd_ink _ _ _ (by omega) n1.2.1) (gd_o h0 hs)
  have veil : ∀ s B, s0 ≤ s → s ≤ n → good s0 n (pVeil F n k s B W) := fun s B h0 hs => by
    have n1 := nxt_le (F := F) hs
    exact gd_if (ink _ _ (by omega) n1.2.1) (ink _ _ h0 hs)
  have n1 := nxt_le (F := F) hs
  have n2 := nxt_le (F := F) n1.2.1
  exact gd_if (gd_num n1.2.1 (fun m => veil _ _ (by omega) n2.2.1)) (veil _ _ h0 hs)
theorem gd_cousin {n s : Nat} {F B : Nat → Int32} {W : Nat → Int64} (hs : s ≤ n) : good s n (pCousin F n s B W) := by
  have n1 := nxt_le (F := F) hs
  have n2 := nxt_le (F := F) n1.2.1
  refine gd_if gd_e (gd_if gd_e (gd_if gd_e (gd_bnd (fun s' B' W' h => ?_) (fun s' B' W' h1 h2 => gd_tan h1 h2))))
  have := gd_patch n2.2.1 s' B' W' h
  omega
abbrev CE := Except (Nat × Nat) ((Nat → Int32) × (Nat → Int64))
def pMain (F : Nat → Int32) (n : Nat) : Nat → Nat → (Nat → Int32) → (Nat → Int64) → Bool → Bool → CE
  | 0, _, B, W, _, _ => .ok (B, W)
  | j + 1, s, B, W, t1, t2 =>
    let stp := fun (o : CO) (t1 t2 : Bool) => match o with
      | .error e => .error e
      | .ok (s', B', W') => pMain F n j s' B' W' t1 t2
    if kd F n s = 0 then .ok (B, W) else if isW F n s kCoast = true then stp (sem F n (pSize F n s B W t1)) true t2 else if isW F n s kOdds = true then stp (sem F n (pOdds F n s B W t2)) t1 true else if isW F n s kRock = true then stp (sem F n (pRock F n s B W)) t1 t2 else if isW F n s kCousin = true then stp (sem F n (pCousin F n s B W)) t1 t2 else .error (am F n s, s)
