/-! the reference's years call -/
theorem RZ.s {f f' : Nat → Int32} {w w' k : Nat} {y : Nat → Int32} (h : RZ f w k y) (hf : ∀ j, j < 8 → f' (w' + j) = f (w + j)) : RZ f' w' k y := by
  unfold RZ at *
  have h0 := hf 0 (by decide)
  rw [Nat.add_zero, Nat.add_zero] at h0
  rw [h0, hf 1 (by decide), hf 2 (by decide), hf 3 (by decide), hf 4 (by decide), hf 5 (by decide), hf 6 (by decide), hf 7 (by decide)]
  exact h
theorem YM.s {f f' : Nat → Int32} {b b' L T : Nat} {Y : YY} (h : YM f b L Y) (ht : stc Y L = T) (hf : ∀ j, j < 9 * T → f' (b' + j) = f (b + j)) : YM f' b' L Y := by
  intro i hi hk
  obtain ⟨k, a1, a2, a3, a4, a5, a6, a7⟩ := h i hi hk
  have lt := stc_lt hk hi
  have e8 : f' (b' + 9 * stc Y i + 8) = f (b + 9 * stc Y i + 8) := by
    have := hf (9 * stc Y i + 8) (by omega)
    rw [Nat.add_assoc, Nat.add_assoc]; exact this
  refine ⟨k, a1, a2, a3, a4, a5.s (fun j hj => ?_), fun q => by rw [e8]; exact a6 q, fun q => ?_⟩
  · have := hf (9 * stc Y i + j) (by omega)
    rw [Nat.add_assoc, Nat.add_assoc]; exact this
  · rcases a7 q with a | ⟨p, p1, p2, p3, p4⟩
    · exact Or.inl a
    · exact Or.inr ⟨p, p1, p2, p3, by rw [e8]; exact p4⟩
/-- the steps copied -/
theorem k254 {d : Nat} {Q : XQ} {S : XS} {J : XJ} {r : XR} {T : Nat} {w1 : Value} (hL : LAY S r) (hT : T ≤ 30) : ∀ (j i cu su : Nat) (I : XI) (w1 : Value), i + j = 9 * T → I 65 26 = nI T → (∀ I', (∀ x k, ¬ (x = 70 ∧ 75 + i ≤ k ∧ k < 345) → I' x k = I x k) → (∀ k, i ≤ k → k < 9 * T → I' 70 (75 + k) = I 70 (1455 + k)) → Q (some (.int (nI T))) S I' J r) → xrun z0 (xcall d) Q 254 80 [.ref 65, w1, .int (nI i)] [] S I J r cu su
  | 0, i, cu, su, I, w1, hi, ht, hQ => by
    refine K254_80 hL ?_
    rw [ht, pk_mul, nI_leI (by omega) (by omega)]
    exact yes (by omega) (hQ I (fun _ _ _ => rfl) (fun k h1 h2 => by omega))
  | j + 1, i, cu, su, I, w1, hi, ht, hQ => by
    refine K254_80 hL ?_
    rw [ht, pk_mul, nI_leI (by omega) (by omega)]
    simp only [nI_add]
    rw [nI_clamp (by omega), nI_clamp (by omega)]
    refine no (by omega) ⟨vp_in_nI (by omega) (by decide), vp_in_nI (by omega) (by decide), k254 (w1 := w1) hL hT j (i + 1) cu su _ _ (by omega) (by rw [up_o (by decide)]; exact ht) (fun I' f1 f2 => hQ I' (fun x k hx => ?_) (fun k h1 h2 => ?_))⟩
    · rw [f1 x k (by omega)]
      by_cases e : x = 70
      · subst e; rw [up_i (by omega)]
      · rw [up_o e]
    · rcases Nat.lt_or_ge i k with q | q
      · rw [f2 k q h2, up_i (by omega)]
      · have : k = i := by omega
        subst this
        rw [f1 70 _ (by omega), up_e]
def kyr (I I' : XI) : Prop := (∀ x k, x ≠ 65 → x ≠ 70 → I' x k = I x k) ∧ (∀ k, k < 73 ∨ (345 ≤ k ∧ k < 1380) → I' 70 k = I 70 k) ∧ I' 65 23 = I 65 23 ∧ I' 65 32 = I 65 32
def kym (I I' : XI) : Prop := (∀ x k, x ≠ 65 → x ≠ 70 → I' x k = I x k) ∧ (∀ k, k < 1380 → I' 70 k = I 70 k) ∧ I' 65 23 = I 65 23 ∧ I' 65 32 = I 65 32
theorem r254 {d : Nat} {Q : XQ} {S : XS} {I : XI} {J : XJ} {r : XR} {N : Nat} {x : Int32} {F B : Nat → Int32} {W : Nat → Int64} (hL : LAY S r) (t : TP I 65 8 69 N F) (hN : N ≤ 900) (hb : ∀ i, i < N → -128 ≤ (F i).toInt ∧ (F i).toInt ≤ 127) (wf : WF B) (hc : ∀ i, i < 1380 → I 70 i = B i) (hw : ∀ k, k < bn B 3 → J 72 k = W k)
    (hB : ¬ (0 ≤ x.toInt ∧ x.toInt ≤ N ∧ x.toInt ≤ 300) → Q (some (.int (-1))) S (up2 (m2 I) 65 0 (nI 5)) J r)
    (hE : ∀ (n : Nat) e, x = nI n → n ≤ N → n ≤ 300 → pYears F n (bn B 3) (ce B) W = .error e → ∀ I' J', kym I I' → jk 65 19 J J' → gt I' (nI 10) (nI e.1) (nI e.2) → Q (some (.int (-1))) S I' J' r)
    (hO : ∀ (n : Nat) L T Y P, x = nI n → n ≤ N → n ≤ 300 → pYears F n (bn B 3) (ce B) W = .ok (L, T, Y) → ∀ I' J', kyr I I' → jk 65 19 J J' → gt I' (nI 0) (nI 0) (-1) → I' 70 73 = 1 → I' 70 74 = nI T → YM (I' 70) 75 L Y → IV L T Y 0 P → Q (some (.int (nI T))) S I' J' r) : xcall (d + 14) 254 [.ref 65, .int x] S I J r Q := by
  refine E254 hL (r206 (d := d + 10) (M := 300) (I := m2 I) hL ⟨t.1, t.2⟩ hN (by decide) hb (fun h => K254_18 (cu := 0) (su := 0) hL (nno rfl (hB h))) (fun n h1 h2 h3 I1 J1 f1 f2 f3 f4 f5 => K254_18 (cu := 0) (su := 0) hL (yes (by decide) ?_)))
  have k1 : ∀ I', kmy (up2 I1 65 26 (nI 0)) I' → kym I I' ∧ I' 65 0 = nI 0 ∧ I' 65 8 = nI 0 := fun I' k => by
    refine ⟨⟨fun x i a b => ?_, fun i a => ?_, ?_, ?_⟩, ?_, ?_⟩
    · rw [k.1 x i a b, up_o a, f1 x i (by omega)]
      show up2 (up2 I 65 1 _) 65 0 _ x i = _
      rw [up_o a, up_o a]
    · rw [k.2.1 i (by omega), up_o (by decide), f1 70 i (by omega)]; rfl
    · rw [k.2.2 23 (by decide) (by decide), up_i (by decide), f1 65 23 (by omega)]; rfl
    · rw [k.2.2 32 (by decide) (by decide), up_i (by decide), f1 65 32 (by omega)]; rfl
    · rw [k.2.2 0 (by decide) (by decide), up_i (by decide), f1 65 0 (by omega)]; rfl
    · rw [k.2.2 8 (by decide) (by decide), up_i (by decide)]; exact f3
  have hsk := skp_le (F := F) (Nat.zero_le n)
  -- a faulty text
  have err : ∀ e, pYears F n (bn B 3) (ce B) W = .error e → ∀ (I' : XI) (J' : XJ) (w1 w2 : Value) (cu su : Nat), kmy (up2 I1 65 26 (nI 0)) I' → jk 65 19 J1 J' → bd I' e.1 e.2 → BM I' → xrun z0 (xcall (d + 13)) Q 254 28 [.ref 65, w1, w2] [] S I' J' r cu su := fun e hp I' J' w1 w2 cu su k j b g => by
    obtain ⟨b1, b2, b3⟩ := k1 I' k
    refine K254_28 hL (yes g.ne (r252b (d := d + 11) hL b g (K254_54 hL (nno rfl (hE n e h1 h2 h3 hp _ J' ⟨fun x k p q => ?_, fun k p => ?_, ?_, ?_⟩ (f2.t j) ⟨up_e, ?_, ?_, ?_⟩)))))
    · rw [up_o p, up_o p, up_o p]; exact b1.1 x k p q
    · rw [up_o (by decide), up_o (by decide), up_o (by decide)]; exact b1.2.1 k p
    · rw [up_i (by decide), up_i (by decide), up_i (by decide)]; exact b1.2.2.1
    · rw [up_i (by decide), up_i (by decide), up_i (by decide)]; exact b1.2.2.2
    · rw [up_i (by decide), up_i (by decide), up_i (by decide)]; exact b3
    · rw [up_i (by decide), up_i (by decide), up_e]
    · rw [up_i (by decide), up_e]
  have loop : ∀ (g j s L T : Nat) (Y : YY) (P : Nat → Nat) (I' : XI) (J' : XJ) (w1 w2 : Value) (cu su : Nat), n ≤ s + g → s ≤ n → n < s + j → SR I' J' n F s L T Y B W → IV L T Y 0 P → kmy (up2 I1 65 26 (nI 0)) I' → jk 65 19 J1 J' → yMain F n (bn B 3) (ce B) W j s L T Y 0 P = pYears F n (bn B 3) (ce B) W → xrun z0 (xcall (d + 13)) Q 254 28 [.ref 65, w1, w2] [] S I' J' r cu su := by
    intro g
    have fin : ∀ (j s L T : Nat) (Y : YY) (P : Nat → Nat) (I' : XI) (J' : XJ) (w1 w2 : Value) (cu su : Nat), kd F n s = 0 → s ≤ n → n < s + j → SR I' J' n F s L T Y B W → IV L T Y 0 P → kmy (up2 I1 65 26 (nI 0)) I' → jk 65 19 J1 J' → yMain F n (bn B 3) (ce B) W j s L T Y 0 P = pYears F n (bn B 3) (ce B) W → xrun z0 (xcall (d + 13)) Q 254 28 [.ref 65, w1, w2] [] S I' J' r cu su := fun j s L T Y P I' J' w1 w2 cu su ek e2 e3 sr iv k j1 hR => by
      obtain ⟨j, rfl⟩ : ∃ j0, j = j0 + 1 := ⟨j - 1, by omega⟩
      rw [yMain, if_pos ek, if_pos rfl] at hR
      have hT30 := iv.1.2.1
      obtain ⟨b1, b2, b3⟩ := k1 I' k
      refine K254_28 hL (nno sr.2.1 (yes (by rw [sr.1.2.2.2.1, ek]; rfl) (r252g (d := d + 11) hL sr.2.1 (K254_54 hL (yes (by decide) ?_)))))
      have e26 : up2 (up2 (up2 I' 65 10 (nI 0)) 65 11 (-1)) 70 73 (nI 1) 65 26 = nI T := by rw [up_o (by decide), up_i (by decide), up_i (by decide)]; exact sr.2.2.1
      rw [e26]
      refine k254 (w1 := w1) hL hT30 (9 * T) 0 _ _ _ _ (by omega) (by rw [up_o (by decide)]; exact e26) (fun I2 p1 p2 => ?_)
      have q70 : ∀ i, i < 75 ∨ 345 ≤ i → i ≠ 73 → i ≠ 74 → I2 70 i = I' 70 i := fun i hi h73 h74 => by
        rw [p1 70 i (by omega), up_i h74, up_i h73, up_o (by decide), up_o (by decide)]
      have q65 : ∀ i, i ≠ 10 → i ≠ 11 → I2 65 i = I' 65 i := fun i h10 h11 => by
        rw [p1 65 i (by omega), up_o (by decide), up_o (by decide), up_i h11, up_i h10]
      refine hO n L T Y P h1 h2 h3 hR.symm I2 J' ⟨fun x i a b => ?_, fun i hi => ?_, ?_, ?_⟩ (f2.t j1) ⟨?_, ?_, ?_, ?_⟩ ?_ ?_ ?_ iv
      · rw [p1 x i (by omega), up_o b, up_o b, up_o a, up_o a]; exact b1.1 x i a b
      · rw [q70 i (by omega) (by omega) (by omega)]; exact b1.2.1 i (by omega)
      · rw [q65 23 (by decide) (by decide)]; exact b1.2.2.1
      · rw [q65 32 (by decide) (by decide)]; exact b1.2.2.2
      · rw [q65 0 (by decide) (by decide)]; exact b2
      · rw [q65 8 (by decide) (by decide)]; exact b3
      · rw [p1 65 10 (by omega), up_o (by decide), up_o (by decide), up_i (by decide), up_e]
      · rw [p1 65 11 (by omega), up_o (by decide), up_o (by decide), up_e]
      · rw [p1 70 73 (by omega), up_i (by decide), up_e]; rfl
      · rw [p1 70 74 (by omega), up_e]
      · refine sr.2.2.2.1.s iv.2.1 (fun j hj => ?_)
        rw [p2 j (Nat.zero_le _) hj, up_i (by omega), up_i (by omega), up_o (by decide), up_o (by decide)]
    induction g with
    | zero =>
      intro j s L T Y P I' J' w1 w2 cu su e1 e2 e3 sr iv k j1 hR
      exact fin j s L T Y P I' J' w1 w2 cu su (kd_0.mpr (by omega)) e2 e3 sr iv k j1 hR
    | succ g ih =>
      intro j s L T Y P I' J' w1 w2 cu su e1 e2 e3 sr iv k j1 hR
      by_cases ek : kd F n s = 0
      · exact fin j s L T Y P I' J' w1 w2 cu su ek e2 e3 sr iv k j1 hR
      refine K254_28 hL (nno sr.2.1 (no ?_ ?_))
      · rw [sr.1.2.2.2.1, show (0 : Int32) = nI 0 from rfl, nI_eqI (by have := kd_le (F := F) (n := n) (s := s); omega) (by decide)]; exact ek
      · refine rs_0 (d := d) _ S r n F B W _ j s L T Y P I' J' hL h3 e2 e3 wf sr iv (fun _ => ek) (fun e => absurd rfl e) hR (fun e he I2 J2 a b c g => K254_47 (err e he I2 J2 _ _ _ _ (k.t a) (j1.t b) c g)) (fun I2 J2 j' s' L' T' Y' P' x1 x2 x3 x4 x5 x6 x7 x8 x9 => K254_47 (ih j' s' L' T' Y' P' I2 J2 _ _ _ _ (by omega) x4 x5 x6 x7 (k.t x1) (j1.t x2) x9))
  refine loop n 900 (skp F n 0) 0 0 Y0 (fun _ => 0) _ J1 _ _ _ _ (by omega) hsk.2 (by omega) ⟨f5.i (fun _ => by rw [up_o (by decide)]) (fun i hi => by rw [up_i (by omega)]) rfl, ?_, up_e, fun i hi => absurd hi (by omega), fun i hi => ?_, wj f2 hw⟩ ⟨⟨by decide, by decide, by decide, fun i hi => absurd hi (by omega)⟩, rfl, fun i hi => absurd hi (by omega)⟩ (kmy.r _) (jk.r _ _ _) rfl
  · unfold GM; rw [up_i (by decide)]; exact f4
  · rw [up_o (by decide), f1 70 i (by omega)]; exact hc i hi
