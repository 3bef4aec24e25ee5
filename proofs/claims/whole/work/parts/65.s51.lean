def pCoast (F : Nat → Int32) (n : Nat) : CE := pMain F n 900 (skp F n 0) B0 (fun _ => 0) false false
/-- the rows that the class's coast call may leave otherwise -/
def kc (I I' : XI) : Prop := ∀ x, (x < 12 ∨ (14 < x ∧ x < 46) ∨ 57 < x) → I' x = I x
def R32 (Q : XQ) (S : XS) (I : XI) (J : XJ) (r : XR) : CE → Prop
  | .error e => ∀ I' J', kc I I' → kj J J' → I' 13 8 = nI e.1 → I' 13 9 = nI e.2 → Q (some (.int (nI 0))) S I' J' r
  | .ok o => ∀ I' J', kc I I' → kj J J' → CR I' J' 46 o.1 o.2 → (I' 57 0 = 0 ∧ I' 57 1 = 0 ∧ I' 57 2 = 0) → I' 13 8 = nI 0 → I' 13 9 = -1 → Q (some (.int (nI 1))) S I' J' r
theorem c32 {d : Nat} {Q : XQ} {S : XS} {I : XI} {J : XJ} {r : XR} {N n : Nat} {F : Nat → Int32} (hL : LAY S r) (t : TP I 0 12 11 N F) (hN : N ≤ 900) (hn : n ≤ N) (hQ : R32 Q S I J r (pCoast F n)) : xcall (d + 9) 32 [.ref 12, .ref 11, .int (nI n), .ref 46] S I J r Q := by
  refine E32 hL (xcall_imp (by omega) (c33 (d := d) (lay5_13 hL) (hL.s 11 (102, 900) rfl) (by decide) hN hn t.2 (fun I1 J1 f1 f2 f3 f4 f5 => K32_9 (d := d + 8) (lay0_46 hL) (xcall_imp (by omega) (c11 (d := d) (W := fun _ => 0) (lay0_46 hL) (fun I2 g1 g2 g3 g4 g5 => K32_13 (d := d + 8) (cu := 0) (su := 0) hL ?_)) (fun _ _ _ _ _ h => h)))) (fun _ _ _ _ _ h => h))
  have e13 : I2 13 = I1 13 := g1 13 (by decide) (by decide) (by decide)
  have e14 : I2 14 = I1 14 := g1 14 (by decide) (by decide) (by decide)
  refine k32 hL (by omega) 900 0 (skp F n 0) 0 0 _ J1 B0 (fun _ => 0) false false rfl (skp_le (Nat.zero_le n)).2 ⟨f3.i (fun x hx => ?_), g2.fr (fun q q1 q2 => by rw [up_o (by omega), up_o (by omega)]), ?_, up_e, ?_, ?_⟩ ?_
  · rcases hx with rfl | rfl
    · rw [up_o (by decide), up_o (by decide)]; exact e13
    · rw [up_o (by decide), up_o (by decide)]; exact e14
  · rw [up_i (by decide), up_e]; rfl
  · rw [up_o (by decide), up_o (by decide), e13]; exact f4
  · rw [up_o (by decide), up_o (by decide), e13]; exact f5
  · have fr : ∀ I', kf (up2 (up2 I2 12 1 (nI 0)) 12 2 (nI 0)) I' → kc I I' ∧ I' 57 = I2 57 := fun I' h => ⟨fun x hx => by
      rw [h x (by omega), up_o (by omega), up_o (by omega), g1 x (by omega) (by omega) (by omega), f1 x (by omega) (by omega)], by
      rw [h 57 (by omega), up_o (by decide), up_o (by decide)]⟩
    unfold pCoast at hQ
    have fj : ∀ J', kj J1 J' → kj J J' := fun J' h x h1 h2 => (h x h1 h2).trans (f2.j x h1 h2)
    cases hp : pMain F n 900 (skp F n 0) B0 (fun _ => 0) false false with
    | error e =>
      rw [hp] at hQ
      exact fun I' J' a1 a2 a3 a4 => hQ I' J' (fr I' a1).1 (fj J' a2) a3 a4
    | ok o =>
      rw [hp] at hQ
      exact fun I' J' a1 a2 a3 a4 a5 => hQ I' J' (fr I' a1).1 (fj J' a2) a3 (by rw [(fr I' a1).2]; exact ⟨g3, g4, g5⟩) a4 a5
