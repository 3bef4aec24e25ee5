theorem r252g {d : Nat} {Q : XQ} {S : XS} {I : XI} {J : XJ} {r : XR} (hL : LAY S r) (g : GM I) (hQ : Q (some (.int 1)) S (up2 (up2 I 65 10 (nI 0)) 65 11 (-1)) J r) : xcall (d + 2) 252 [.ref 65] S I J r Q := by
  refine E252 hL ?_
  rw [g]
  refine nno (by rw [up_i (by decide)]; exact g) (yes (by rw [up_i (by decide), up_i (by decide)]; exact g) hQ)
theorem r252b {d : Nat} {Q : XQ} {S : XS} {I : XI} {J : XJ} {r : XR} {k s : Nat} (hL : LAY S r) (h : bd I k s) (g : BM I) (hQ : Q (some (.int 0)) S (up2 (up2 (up2 I 65 10 (nI k)) 65 11 (nI s)) 65 0 (nI 10)) J r) : xcall (d + 2) 252 [.ref 65] S I J r Q := by
  refine E252 hL ?_
  have e13 : up2 I 65 10 (I 65 12) 65 13 = nI s := by rw [up_i (by decide)]; exact h.2
  rw [e13, h.1]
  refine yes (by rw [up_i (by decide)]; exact g.ne) (no (by rw [up_i (by decide), up_i (by decide)]; exact g.ne) (E195 hL (K252_40 (yes rfl hQ))))
/-- what the reference's coast call leaves: all but rows 65, 70's block 4 (and, if it is well, block 0) and two kept words -/
def kme (I I' : XI) : Prop := (∀ x k, x ≠ 65 → x ≠ 70 → I' x k = I x k) ∧ (∀ k, k < 1380 → I' 70 k = I 70 k) ∧ I' 65 23 = I 65 23 ∧ I' 65 32 = I 65 32
def kmo (I I' : XI) : Prop := (∀ x k, x ≠ 65 → x ≠ 70 → I' x k = I x k) ∧ (∀ k, 345 ≤ k → k < 1380 → I' 70 k = I 70 k) ∧ I' 65 23 = I 65 23 ∧ I' 65 32 = I 65 32
def gt (I' : XI) (st k p : Int32) : Prop := I' 65 0 = st ∧ I' 65 8 = nI 0 ∧ I' 65 10 = k ∧ I' 65 11 = p
theorem r205 {d : Nat} {Q : XQ} {S : XS} {I : XI} {J : XJ} {r : XR} {N : Nat} {x : Int32} {F : Nat → Int32} (hL : LAY S r) (t : TP I 65 8 69 N F) (hN : N ≤ 900) (hb : ∀ i, i < N → -128 ≤ (F i).toInt ∧ (F i).toInt ≤ 127)
    (hB : ¬ (0 ≤ x.toInt ∧ x.toInt ≤ N) → Q (some (.int (-1))) S (up2 (m2 I) 65 0 (nI 5)) J r)
    (hE : ∀ (n : Nat) e, x = nI n → n ≤ N → pCoast F n = .error e → ∀ I' J', kme I I' → kmj J J' → gt I' (nI 10) (nI e.1) (nI e.2) → Q (some (.int (-1))) S I' J' r)
    (hO : ∀ (n : Nat) B W, x = nI n → n ≤ N → pCoast F n = .ok (B, W) → ∀ I' J', kmo I I' → (∀ y k, ¬ (y = 65 ∧ k = 19) → ¬ (y = 72 ∧ (k < 6 ∨ 24 ≤ k)) → J' y k = J y k) → gt I' (nI 0) (nI 0) (-1) → (∀ i, i < 345 → I' 70 i = B i) → (∀ k, k < bn B 3 → J' 72 k = W k) → WF B → Q (some (.int (nI (bn B 3)))) S I' J' r) : xcall (d + 10) 205 [.ref 65, .int x] S I J r Q := by
  refine E205 hL (xcall_imp (by omega) (r206 (d := d) (M := 900) (I := m2 I) hL ⟨t.1, t.2⟩ hN (by decide) hb (fun h => K205_18 (d := d + 9) (cu := 0) (su := 0) hL (nno rfl (hB (fun h2 => h ⟨h2.1, h2.2, by omega⟩)))) (fun n h1 h2 h3 I1 J1 f1 f2 f3 f4 f5 => K205_18 (d := d + 9) (cu := 0) (su := 0) hL (yes (by decide) (r190 (d := d + 8) hL (fun I2 g1 g2 => K205_28 hL ?_))))) (fun _ _ _ _ _ h => h))
  have e65 : I2 65 = I1 65 := funext fun k => g1 65 k (by omega)
  have fr : ∀ I', kmf (up2 (up2 I2 65 24 (nI 0)) 65 25 (nI 0)) I' → (∀ x k, x ≠ 65 → x ≠ 70 → I' x k = I x k) ∧ (∀ k, k < 1380 → I' 70 k = I 70 k) ∧ I' 65 23 = I 65 23 ∧ I' 65 32 = I 65 32 ∧ I' 65 0 = nI 0 ∧ I' 65 8 = nI 0 := fun I' h => by
    refine ⟨fun x k a b => ?_, fun k a => ?_, ?_, ?_, ?_, ?_⟩
    · rw [h.1 x k a b, up_o a, up_o a, g1 x k (by omega), f1 x k (by omega)]
      show up2 (up2 I 65 1 _) 65 0 _ x k = _
      rw [up_o a, up_o a]
    · rw [h.2.1 k a, up_o (by decide), up_o (by decide), g1 70 k (by omega), f1 70 k (by omega)]; rfl
    · rw [h.2.2 23 (by omega) (by decide) (by decide), up_i (by decide), up_i (by decide), e65, f1 65 23 (by omega)]; rfl
    · rw [h.2.2 32 (by omega) (by decide) (by decide), up_i (by decide), up_i (by decide), e65, f1 65 32 (by omega)]; rfl
    · rw [h.2.2 0 (by omega) (by decide) (by decide), up_i (by decide), up_i (by decide), e65, f1 65 0 (by omega)]; rfl
    · rw [h.2.2 8 (by omega) (by decide) (by decide), up_i (by decide), up_i (by decide), e65]; exact f3
  refine k205 (d := d) (P := fun I' J' => ∀ w1 cu su, xcall (d + 9) 252 [.ref 65] S I' J' r (fun v S1 I1 J1 r1 => xrun z0 (xcall (d + 9)) Q 205 73 [.ref 65, w1] (v.toList ++ []) S1 I1 J1 r1 cu su)) hL (by omega) (fun I' J' h => h) 900 (skp F n 0) 0 0 _ J1 B0 (fun _ => 0) false false _ (by omega) (skp_le (Nat.zero_le n)).2 B0_wf ⟨f5.i (fun i => by rw [up_o (by decide), up_o (by decide)]; exact g1 69 i (by omega)) (fun i hi => by rw [up_i (by omega), up_i (by omega), e65]) rfl, ?_, fun i hi => by rw [up_o (by decide), up_o (by decide)]; exact g2 i hi, fun k hk => ?_, ?_, ?_⟩ ?_
  · unfold GM; rw [up_i (by decide), up_i (by decide), e65]; exact f4
  · have : bn B0 3 = 0 := rfl
    omega
  · rw [up_i (by decide), up_e]; rfl
  · rw [up_e]; rfl
  · have fj : ∀ J', kmj J1 J' → kmj J J' := fun J' h => f2.mj.t h
    cases hp : pMain F n 900 (skp F n 0) B0 (fun _ => 0) false false with
    | error e =>
      refine fun I' J' a1 a2 a3 a4 w1 cu su => ?_
      obtain ⟨b1, b2, b3, b4, b5, b6⟩ := fr I' a1
      refine r252b (d := d + 7) hL a3 a4 (K205_73 hL (nno rfl (hE n e h1 h2 hp _ J' ⟨fun x k p q => ?_, fun k p => ?_, ?_, ?_⟩ (fj J' a2) ⟨up_e, ?_, ?_, ?_⟩)))
      · rw [up_o p, up_o p, up_o p]; exact b1 x k p q
      · rw [up_o (by decide), up_o (by decide), up_o (by decide)]; exact b2 k p
      · rw [up_i (by decide), up_i (by decide), up_i (by decide)]; exact b3
      · rw [up_i (by decide), up_i (by decide), up_i (by decide)]; exact b4
      · rw [up_i (by decide), up_i (by decide), up_i (by decide)]; exact b6
      · rw [up_i (by decide), up_i (by decide), up_e]
      · rw [up_i (by decide), up_e]
    | ok o =>
      obtain ⟨B, W⟩ := o
      refine fun I' J' a1 a2 a3 a4 a5 a6 w1 cu su => ?_
      replace a6 : WF B := a6
      replace a4 : ∀ i, i < 345 → I' 70 (1380 + i) = B i := a4
      replace a5 : ∀ k, k < bn B 3 → J' 72 (24 + k) = W k := a5
      obtain ⟨b1, b2, b3, b4, b5, b6⟩ := fr I' a1
      refine r252g (d := d + 7) hL a3 (K205_73 hL (yes (by decide) (r253 (d := d + 8) (a := 4) (b := 0) hL (by decide) (by decide) (by decide) (fun I3 J3 p1 p2 p3 p4 => K205_84 hL ?_))))
      have q70 : ∀ i, i < 345 → I3 70 i = B i := fun i hi => by
        have := p2 i hi
        rw [Nat.mul_zero, Nat.zero_add] at this
        rw [this, up_o (by decide), up_o (by decide)]
        exact a4 i hi
      rw [q70 3 (by decide), a6.c.1]
      refine hO n B W h1 h2 hp I3 J3 ⟨fun x k p q => ?_, fun k p q => ?_, ?_, ?_⟩ (fun y k h3 h4 => ?_) ⟨?_, ?_, ?_, ?_⟩ q70 (fun k hk => ?_) a6
      · rw [p1 x k (by omega), up_o p, up_o p]; exact b1 x k p q
      · rw [p1 70 k (by omega), up_o (by decide), up_o (by decide)]; exact b2 k q
      · rw [p1 65 23 (by omega), up_i (by decide), up_i (by decide)]; exact b3
      · rw [p1 65 32 (by omega), up_i (by decide), up_i (by decide)]; exact b4
      · rw [p3 y k (by omega)]; exact fj J' a2 y k h3 (by omega)
      · rw [p1 65 0 (by omega), up_i (by decide), up_i (by decide)]; exact b5
      · rw [p1 65 8 (by omega), up_i (by decide), up_i (by decide)]; exact b6
      · rw [p1 65 10 (by omega), up_i (by decide), up_e]
      · rw [p1 65 11 (by omega), up_e]
      · have hb6 := a6.c.2
        have := p4 k (by omega)
        rw [Nat.mul_zero, Nat.zero_add] at this
        rw [this]
        exact a5 k hk
