/-! years lived: the reference -/
def mr (I I' : XI) : Prop := (∀ q, q ≠ 65 → q ≠ 70 → q ≠ 73 → I' q = I q) ∧ ∀ i, i ≠ 33 → i ≠ 34 → i ≠ 35 → i ≠ 36 → i ≠ 39 → i ≠ 40 → I' 65 i = I 65 i
theorem mr.r (I : XI) : mr I I := ⟨fun _ _ _ _ => rfl, fun _ _ _ _ _ _ _ => rfl⟩
theorem mr.t {I I' I2 : XI} (h : mr I I') (h2 : mr I' I2) : mr I I2 := ⟨fun q a b c => (h2.1 q a b c).trans (h.1 q a b c), fun i a b c d e f => (h2.2 i a b c d e f).trans (h.2 i a b c d e f)⟩
theorem mfd.m {I I' : XI} (h : mfd I I') : mr I I' := ⟨h.1, fun i _ b _ _ e _ => h.2 i b e⟩
theorem mr.u {I I' : XI} {i : Nat} {v : Int32} (h : mr I I') (hi : i = 33 ∨ i = 35 ∨ i = 36 ∨ i = 40) : mr I (up2 I' 65 i v) := ⟨fun q a b c => by rw [up_o a]; exact h.1 q a b c, fun j a b c d e f => by rw [up_i (by omega)]; exact h.2 j a b c d e f⟩
theorem MCS.u {I : XI} {i : Nat} {v : Int32} {st : YL} (h : MCS I st) (hi : i = 33 ∨ i = 35 ∨ i = 36 ∨ i = 40) : MCS (up2 I 65 i v) st := ⟨by rw [up_o (by decide)]; exact h.1, by rw [up_i (by omega)]; exact h.2.1, by rw [up_i (by omega)]; exact h.2.2.1, h.2.2.2⟩
def MR (I : XI) (st : YL) (dn : Nat) (ms : Int32) : Prop := MCS I st ∧ I 65 35 = nI dn ∧ I 65 36 = ms ∧ I 65 33 = 0 ∧ I 65 40 = 0
/-- it is over -/
def OV (I : XI) (R : YT) : Prop := I 65 33 = 1 ∧ MCS I R.2.2.2 ∧ I 65 35 = nI R.1 ∧ I 65 36 = R.2.1 ∧ I 65 40 = R.2.2.1
def FU (i j dn e j' dn' : Nat) : Prop := (i = e ∧ j' = j ∧ dn' = dn) ∨ (i < e ∧ dn < dn' ∧ 400 * (301 - dn') + (200 - e) ≤ j')
theorem YM.m {B B' : Nat → Int32} {L : Nat} {Y : YY} (h : YM B 75 L Y) (s : smc B B') : YM B' 75 L Y := h.s rfl (fun j _ => s.2.2 (75 + j) (by omega))
/-- how the loop over steps goes on from line i to line e -/
def EXP (L : Nat) (Y : YY) (R : YT) (f i e : Nat) : Prop := ∀ (D to : Nat) (Q : XQ) (S : XS) (J : XJ) (r : XR) (I : XI) (j dn : Nat) (G : Nat → Int32) (ms : Int32) (st : YL) (w1 : Value) (cu su : Nat), 2 * f + 9 ≤ D → LAY S r → stc Y e ≤ to → to ≤ 30 → MR I st dn ms → YM st.1 75 L Y → VA (bn st.1 3) (ce st.1) L Y → yrun Y L j i G dn ms st = R → 400 * (301 - dn) ≤ j → dn ≤ 300 →
  (∀ (I' : XI) (j' dn' : Nat) (G' : Nat → Int32) (ms' : Int32) (st' : YL) (cu su : Nat), mr I I' → MR I' st' dn' ms' → YM st'.1 75 L Y → VA (bn st'.1 3) (ce st'.1) L Y → yrun Y L j' e G' dn' ms' st' = R → FU i j dn e j' dn' → dn' ≤ 300 → (∀ x, x < i ∨ e ≤ x → G' x = G x) → xrun z0 (xcall D) Q 340 2 [.ref 65, w1, .int (nI to), .int (nI (stc Y e))] [] S I' J r cu su) →
  (∀ I', mr I I' → OV I' R → Q none S I' J r) → xrun z0 (xcall D) Q 340 2 [.ref 65, w1, .int (nI to), .int (nI (stc Y i))] [] S I J r cu su
theorem ex_nil {L f i : Nat} {Y : YY} {R : YT} : EXP L Y R f i i := fun D to Q S J r I j dn G ms st w1 cu su hD hL ht h30 h ym va hR hf hd hp ho => hp I j dn G ms st cu su (mr.r I) h ym va hR (Or.inl ⟨rfl, rfl, rfl⟩) hd (fun _ _ => rfl)
theorem ex_app {L f i e k : Nat} {Y : YY} {R : YT} (h1 : EXP L Y R f i e) (h2 : EXP L Y R f e k) (hie : i ≤ e) (hek : e ≤ k) (hk : k ≤ 60) : EXP L Y R f i k := fun D to Q S J r I j dn G ms st w1 cu su hD hL ht h30 h ym va hR hf hd hp ho => by
  have hm := stc_mono (Y := Y) (i := e) (k - e)
  rw [show e + (k - e) = k by omega] at hm
  refine h1 D to Q S J r I j dn G ms st w1 cu su hD hL (by omega) h30 h ym va hR hf hd (fun I1 j1 dn1 G1 ms1 st1 cu su a1 a2 a3 a4 a5 a6 a7 a8 => ?_) ho
  refine h2 D to Q S J r I1 j1 dn1 G1 ms1 st1 w1 cu su hD hL ht h30 a2 a3 a4 a5 (by rcases a6 with ⟨b1, b2, b3⟩ | ⟨b0, b1, b2⟩ <;> omega) a7 (fun I2 j2 dn2 G2 ms2 st2 cu su c1 c2 c3 c4 c5 c6 c7 c8 => ?_) (fun I2 c1 c2 => ho I2 (a1.t c1) c2)
  refine hp I2 j2 dn2 G2 ms2 st2 cu su (a1.t c1) c2 c3 c4 c5 ?_ c7 (fun x hx => (c8 x (by omega)).trans (a8 x (by omega)))
  unfold FU at *
  rcases a6 with ⟨b1, b2, b3⟩ | ⟨b0, b1, b2⟩
  · rcases c6 with ⟨b4, b5, b6⟩ | ⟨b7, b4, b5⟩
    · exact Or.inl ⟨by omega, by omega, by omega⟩
    · exact Or.inr ⟨by omega, by omega, b5⟩
  · rcases c6 with ⟨b4, b5, b6⟩ | ⟨b7, b4, b5⟩
    · subst b4 b5 b6; exact Or.inr ⟨b0, b1, b2⟩
    · exact Or.inr ⟨by omega, by omega, b5⟩
/-- a step is come to: 300 were done, or it is counted -/
theorem r341 {d : Nat} {Q : XQ} {S : XS} {I : XI} {J : XJ} {r : XR} {L l k dn j : Nat} {G : Nat → Int32} {ms : Int32} {Y : YY} {R : YT} {st : YL} (hL : LAY S r) (hL6 : L ≤ 60) (h30 : stc Y L ≤ 30) (hl : l < L) (h : MR I st dn ms) (hk : Y l 0 = nI k) (h1 : 1 ≤ k) (h14 : k ≤ 14) (rz : RZ st.1 (75 + 9 * stc Y l) k (Y l)) (hd : dn ≤ 300) (hj : 400 * (301 - dn) ≤ j) (hR : yrun Y L j l G dn ms st = R)
    (hO : ∀ I', mr I I' → OV I' R → Q none S I' J r)
    (hG : dn < 300 → MCS (up2 I 65 35 (nI (dn + 1))) st → mr I (up2 I 65 35 (nI (dn + 1))) → yrun Y L (j - 1) (nl Y L l (dO (Y l) st).2.1) (if Y l 0 = nI 10 then ub G l (Y l 2) else G) (dn + 1) (if (dO (Y l) st).1 = 0 then ms + nI 1 else ms) (dO (Y l) st).2 = R →
      ((8 ≤ rk9 k → (¬ rk9 k = 8 → (¬ rk9 k = 9 → (rk9 k ≤ 9 → Q none S (up2 I 65 35 (nI (dn + 1))) J r) ∧ (¬ rk9 k ≤ 9 → Q none S (up2 (up2 I 65 35 (nI (dn + 1))) 65 33 (nI 1)) J r)) ∧ (¬ ¬ rk9 k = 9 → xrun z0 (xcall d) Q 341 119 [.ref 65, .int (nI (stc Y l)), .int (nI (75 + 9 * stc Y l)), .int (nI (rk9 k)), .int (nI 0)] [] S (up2 I 65 35 (nI (dn + 1))) J r 0 0)) ∧ (¬ ¬ rk9 k = 8 → xcall d 346 [.ref 65, .int (nI (75 + 9 * stc Y l))] S (up2 I 65 35 (nI (dn + 1))) J r (fun v S1 I1 J1 r1 => xrun z0 (xcall d) Q 341 88 [.ref 65, .int (nI (stc Y l)), .int (nI (75 + 9 * stc Y l)), .int (nI (rk9 k)), .float 0] (v.toList ++ []) S1 I1 J1 r1 0 0))) ∧ (¬ 8 ≤ rk9 k → xcall d 342 [.ref 65, .int (nI (75 + 9 * stc Y l))] S (up2 I 65 35 (nI (dn + 1))) J r (fun v S1 I1 J1 r1 => xrun z0 (xcall d) Q 341 62 [.ref 65, .int (nI (stc Y l)), .int (nI (75 + 9 * stc Y l)), .int (nI (rk9 k)), .float 0] (v.toList ++ [.int ms, .ref 65]) S1 I1 J1 r1 0 0)))) : xcall (d + 1) 341 [.ref 65, .int (nI (stc Y l))] S I J r Q := by
  have hkE : Y l 0 ≠ nI 15 := fun e => by rw [hk, nI_eqI (by omega) (by decide)] at e; omega
  have lt := stc_lt hkE hl
  have hrk : rk9 k ≤ 10 := by
    unfold rk9
    split
    · omega
    · split
      · omega
      · split
        · omega
        · omega
  obtain ⟨j, rfl⟩ : ∃ j0, j = j0 + 1 := ⟨j - 1, by omega⟩
  rw [yrun, if_neg (by omega), if_neg hkE] at hR
  refine E341 hL ?_
  rw [h.2.1, nI_eqI (by omega) (by decide)]
  by_cases q : dn = 300
  · rw [if_pos (by omega)] at hR
    subst hR
    refine nno q (hO _ (((mr.r I).u (Or.inl rfl)).u (Or.inr (Or.inr (Or.inr rfl)))) ⟨?_, (h.1.u (Or.inl rfl)).u (Or.inr (Or.inr (Or.inr rfl))), ?_, ?_, up_e⟩)
    · rw [up_i (by decide), up_e]; rfl
    · rw [up_i (by decide), up_i (by decide)]; exact h.2.1
    · rw [up_i (by decide), up_i (by decide)]; exact h.2.2.1
  · rw [if_neg (by omega)] at hR
    have hh := hG (by omega) (h.1.u (Or.inr (Or.inl rfl))) ((mr.r I).u (Or.inr (Or.inl rfl))) hR
    refine yes q ?_
    simp only [nI_add, pk_mul]
    rw [nI_clamp (by omega)]
    have e70 : up2 I 65 35 (nI (dn + 1)) 70 = st.1 := by rw [up_o (by decide)]; exact h.1.1
    have e36 : up2 I 65 35 (nI (dn + 1)) 65 36 = ms := by rw [up_i (by decide)]; exact h.2.2.1
    rw [e70, e36, rz.1, nI_leI (by omega) (by omega), nI_leI (by omega) (by omega), nI_eqI (by omega) (by omega), nI_eqI (by omega) (by omega)]
    exact ⟨vp_in_nI (by omega) (by decide), hh⟩
