/-- after a text, in the class: all but scratch and the fault's words -/
def ke (I I' : XI) : Prop := ∀ q i, scr q i = false → ¬ (q = 0 ∧ (i = 12 ∨ i = 14 ∨ i = 15)) → I' q i = I q i
def ko (I I' : XI) : Prop := ∀ q i, scr q i = false → ¬ (q = 0 ∧ (i = 12 ∨ i = 14 ∨ i = 15)) → ¬ (28 ≤ q ∧ q ≤ 45) → I' q i = I q i
theorem scr_kc {q i : Nat} (h : scr q i = false) : q < 12 ∨ (14 < q ∧ q < 46) ∨ 57 < q := by
  by_cases c1 : q < 12
  · exact Or.inl c1
  by_cases c2 : 14 < q ∧ q < 46
  · exact Or.inr (Or.inl c2)
  by_cases c3 : 57 < q
  · exact Or.inr (Or.inr c3)
  have : q = 12 ∨ q = 13 ∨ q = 14 ∨ q = 46 ∨ q = 47 ∨ q = 48 ∨ q = 49 ∨ q = 50 ∨ q = 51 ∨ q = 52 ∨ q = 53 ∨ q = 54 ∨ q = 55 ∨ q = 56 ∨ q = 57 := by omega
  rcases this with rfl | rfl | rfl | rfl | rfl | rfl | rfl | rfl | rfl | rfl | rfl | rfl | rfl | rfl | rfl <;> cases h
/-- the class's fault told: kind and place, the tape empty, the status -/
def ft (I' : XI) (st k : Int32) (p : Int32) : Prop := I' 0 13 = st ∧ I' 0 12 = nI 0 ∧ I' 0 14 = k ∧ I' 0 15 = p
theorem c30 {d : Nat} {Q : XQ} {S : XS} {I : XI} {J : XJ} {r : XR} {N : Nat} {x : Int32} {F : Nat → Int32} (hL : LAY S r) (t : TP I 0 12 11 N F) (hN : N ≤ 900)
    (hB : ¬ (0 ≤ x.toInt ∧ x.toInt ≤ N) → Q (some (.int (-1))) S (up2 I 0 13 (nI 5)) J r)
    (hE : ∀ (n : Nat) e, x = nI n → n ≤ N → pCoast F n = .error e → ∀ I' J', ke I I' → kj J J' → ft I' (nI 10) (nI e.1) (nI e.2) → Q (some (.int (-1))) S I' J' r)
    (hO : ∀ (n : Nat) B W, x = nI n → n ≤ N → pCoast F n = .ok (B, W) → ∀ I' J', ko I I' → (∀ q, q ≠ 13 → q ≠ 50 → q ≠ 32 → J' q = J q) → ft I' (nI 0) (nI 0) (-1) → CR I' J' 28 B W → (I' 39 0 = 0 ∧ I' 39 1 = 0 ∧ I' 39 2 = 0) → Q (some (.int (nI (bn B 3)))) S I' J' r) : xcall (d + 10) 30 [.ref 0, .int x] S I J r Q := by
  have bad : ¬ (0 ≤ x.toInt ∧ x.toInt ≤ N) → ∀ w, xcall (d + 9) 31 [.ref 0, .int (nI 5)] S I J r (fun v S1 I1 J1 r1 => xrun z0 (xcall (d + 9)) Q 30 17 [.ref 0, .int x, w] (v.toList ++ []) S1 I1 J1 r1 0 0) := fun h w => E31 (d := d + 8) hL (K30_17 (hB h))
  refine E30 hL ?_
  rcases nI_cases x with q | ⟨n, h1, h2, h3⟩
  · exact yes (by rw [i_lt, i_z]; exact q) (bad (by omega) _)
  refine no (by rw [i_lt, i_z]; omega) ?_
  rw [t.1]
  by_cases q2 : n ≤ N
  case neg => exact no (by rw [i_le, h3, i_toI (by omega)]; omega) (bad (by omega) _)
  refine yes (by rw [i_le, h3, i_toI (by omega)]; omega) ?_
  rw [h2]
  refine c32 hL t hN q2 ?_
  have e30 : ∀ I' J' I1, kc I I1 → kj J J' → I' = up2 (up2 (up2 I1 0 12 (nI 0)) 0 14 (I1 13 8)) 0 15 (I1 13 9) → ke I I' := fun I' J' I1 a1 a2 e q i hs hq => by
    rw [e]
    have : up2 (up2 (up2 I1 0 12 (nI 0)) 0 14 (I1 13 8)) 0 15 (I1 13 9) q i = I1 q i := by
      by_cases e0 : q = 0
      · subst e0
        rw [up_i (by omega), up_i (by omega), up_i (by omega)]
      · rw [up_o e0, up_o e0, up_o e0]
    rw [this, a1 q (scr_kc hs)]
  cases hp : pCoast F n with
  | error e =>
    refine fun I1 J1 a1 a2 a3 a4 => K30_34 (d := d + 9) (cu := 0) (su := 0) hL (E79 (d := d + 8) hL (lay5_13 hL) (K30_46 (d := d + 9) hL (nno rfl (E31 (d := d + 8) hL (K30_56 (d := d + 9) ?_)))))
    rw [up_o (by decide), up_o (by decide), up_o (by decide)]
    refine hE n e h2 q2 hp _ J1 (fun q i hs hq => ?_) a2 ⟨up_e, ?_, ?_, ?_⟩
    · have := e30 _ J1 I1 a1 a2 rfl q i hs hq
      by_cases e0 : q = 0 ∧ i = 13
      · rw [e0.1, e0.2] at hs; cases hs
      · rw [← this]
        unfold up2
        by_cases e1 : q = 0
        · rw [if_pos e1, if_neg (fun h => e0 ⟨e1, h⟩)]
        · rw [if_neg e1]
    · rw [up_i (by decide), up_i (by decide), up_i (by decide), up_e]
    · rw [up_i (by decide), up_i (by decide), up_e]; exact a3
    · rw [up_i (by decide), up_e]; exact a4
  | ok o =>
    obtain ⟨B, W⟩ := o
    refine fun I1 J1 a1 a2 a3 a4 a5 a6 => K30_34 (d := d + 9) (cu := 0) (su := 0) hL (E79 (d := d + 8) hL (lay5_13 hL) (K30_46 (d := d + 9) hL (yes (by decide) ?_)))
    rw [up_o (by decide), up_o (by decide), up_o (by decide)]
    refine xcall_imp (by omega) (c80 (d := d) (lay0_28 hL) (lay0_46 hL) (by decide) ?_ (fun I2 J2 h => K30_68 (d := d + 9) (cu := 0) (su := 0) hL ?_)) (fun _ _ _ _ _ h => h)
    · rw [up_o (by decide), up_o (by decide), up_o (by decide)]; exact Or.inl a4.1
    · have cr : CR I2 J2 28 B W := h.cr (a3.fr (fun q q1 q2 => by rw [up_o (by omega), up_o (by omega), up_o (by omega)]))
      have r0 := h.1 0 (Or.inl (by decide))
      refine E83 (d := d + 8) hL (K30_79 (d := d + 9) ?_)
      rw [cr.n7]
      refine hO n B W h2 q2 hp _ J2 (fun q i hs hq hq2 => ?_) (fun q b1 b2 b3 => (h.2.1 q b3).trans (a2 q b1 b2)) ⟨up_e, ?_, ?_, ?_⟩ (cr.fr (fun q q1 q2 => up_o (by omega))) ?_
      · have := e30 _ J1 I1 a1 a2 rfl q i hs hq
        have hrow := h.1 q (by omega)
        by_cases e0 : q = 0 ∧ i = 13
        · rw [e0.1, e0.2] at hs; cases hs
        · rw [← this, ← hrow]
          unfold up2
          by_cases e1 : q = 0
          · rw [if_pos e1, if_neg (fun h => e0 ⟨e1, h⟩)]
          · rw [if_neg e1]
      · rw [up_i (by decide), r0, up_i (by decide), up_i (by decide), up_e]
      · rw [up_i (by decide), r0, up_i (by decide), up_e]; exact a5
      · rw [up_i (by decide), r0, up_e]; exact a6
      · have y := h.2.2.2.2.2.2.1
        refine ⟨?_, ?_, ?_⟩
        · rw [up_o (by decide)]; refine y.1.trans ?_; rw [up_o (by decide), up_o (by decide), up_o (by decide)]; exact a4.1
        · rw [up_o (by decide)]; refine y.2.1.trans ?_; rw [up_o (by decide), up_o (by decide), up_o (by decide)]; exact a4.2.1
        · rw [up_o (by decide)]; refine y.2.2.trans ?_; rw [up_o (by decide), up_o (by decide), up_o (by decide)]; exact a4.2.2
