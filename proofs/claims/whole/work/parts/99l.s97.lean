/-! the class and the reference are made -/
abbrev S65 : XS := ES9 (ES9 (ES8 (ES7 (ES6 (ES4 (ES3 (ES2 ([(9, 0)] ++ [(2, 0)]) ++ [(6, 0)]) ++ [(102, 900)] ++ [(1, 0)]) ++ [(8, 0)]) ++ [(4, 0)]) ++ [(3, 0)]) ++ [(100, 5)] ++ [(0, 0)]) ++ [(0, 0)]) ++ [(103, 3)]
abbrev R65 (r : XR) : XR := up2 (up2 (RS9 (up2 (RS9 (up2 (up2 (RS8 (up2 (RS7 (up2 (RS6 (up2 (RS4 (up2 (up2 (RS3 (up2 (RS2 r 1 2) 0 0 (some 1)) 3 4) 0 1 (some 3)) 0 2 (some 11)) 12 13) 0 3 (some 12)) 15 16) 0 4 (some 15)) 19 20) 0 5 (some 19)) 22 23) 0 6 (some 22)) 0 7 (some 27)) 28) 0 8 (some 28)) 46) 0 9 (some 46)) 0 10 (some 64)
theorem z0c {d : Nat} {Q : XQ} {I : XI} {J : XJ} {r : XR} (zh : ZH [(9, 0)] I J r) (hQ : ∀ I1 I2, (∀ x, x ≠ 28 → x ≠ 31 → x ≠ 39 → I1 x = IS3 I 4 x) → (CR I1 (JS2 J 1) 28 B0 (fun _ => 0) ∧ I1 39 0 = 0 ∧ I1 39 1 = 0 ∧ I1 39 2 = 0) → (∀ x, x ≠ 46 → x ≠ 49 → x ≠ 57 → I2 x = I1 x) → S65.length = 65 → ZH S65 (up2 (up2 I2 0 14 (-1)) 0 15 (-1)) (JS2 J 1) (R65 r) → Q none S65 (up2 (up2 I2 0 14 (-1)) 0 15 (-1)) (JS2 J 1) (R65 r)) : xcall (d + 4) 0 [.ref 0] [(9, 0)] I J r Q := by
  have hp : ([(9, 0)] : XS).length = 1 := rfl
  have h0 : ([(9, 0)] : XS)[0]? = some (9, 0) := rfl
  refine xc_b [.ref 0] rfl rfl rfl ?_
  refine xr_b q0_0 rfl ?_
  refine i_6 rfl ?_
  refine i_49 rfl ?_
  refine i_6 rfl ?_
  refine a28 1 hp zh rfl rfl ?_
  have hp1 := lA (E := [(2, 0)]) (n := 1) (q := 2) hp rfl rfl
  have zh_6 := zh.a [(2, 0)]
  refine i_19 rfl ?_
  refine i_55 (as := [.ref 1]) [.ref 1, .ref 0] rfl rfl rfl rfl rfl (sN' (i := 0) hp rfl) (by decide) (by decide) ?_
  refine z2 (d := d + 2) (a := 1) hp1 (sN' (i := 0) hp rfl) (by omega) zh_6 (fun hp2 zq2 => ?_)
  refine xr_b q0_12 rfl ?_
  refine i_47 (ES2_s (sA h0)) ?_
  have zh_12 := zq2.r (a := 0) (i := 0) (v := some 1) (zlt hp2 (by omega))
  refine i_6 rfl ?_
  refine a28 3 hp2 zh_12 rfl rfl ?_
  have hp3 := lA (E := [(6, 0)]) (n := 1) (q := 4) hp2 rfl rfl
  have zh_16 := zh_12.a [(6, 0)]
  refine i_19 rfl ?_
  refine i_55 (as := [.ref 3]) [.ref 3, .ref 0] rfl rfl rfl rfl rfl (sN' (i := 0) hp2 rfl) (by decide) (by decide) ?_
  refine z3 (d := d + 2) (a := 3) hp3 (sN' (i := 0) hp2 rfl) (by omega) zh_16 ⟨2, 16, (sA (sN' (i := 0) hp1 rfl))⟩ (fun hp4 zq4 => ?_)
  refine xr_b q0_23 rfl ?_
  refine i_47 (ES3_s (sA (ES2_s (sA h0)))) ?_
  have zh_22 := zq4.r (a := 0) (i := 1) (v := some 3) (zlt hp4 (by omega))
  refine i_6 rfl ?_
  refine i_0 ?_
  refine a29 11 900 rfl hp4 zh_22 rfl rfl ?_
  have hp5 := lA (E := [(102, 900)]) (n := 1) (q := 12) hp4 rfl rfl
  have zh_27 := zh_22.a [(102, 900)]
  refine i_47 (sA (ES3_s (sA (ES2_s (sA h0))))) ?_
  have zh_29 := zh_27.r (a := 0) (i := 2) (v := some 11) (zlt hp5 (by omega))
  refine i_6 rfl ?_
  refine a28 12 hp5 zh_29 rfl rfl ?_
  have hp6 := lA (E := [(1, 0)]) (n := 1) (q := 13) hp5 rfl rfl
  have zh_33 := zh_29.a [(1, 0)]
  refine i_19 rfl ?_
  refine i_55 (as := [.ref 12]) [.ref 12, .ref 0] rfl rfl rfl rfl rfl (sN' (i := 0) hp5 rfl) (by decide) (by decide) ?_
  refine z4 (d := d + 1) (a := 12) hp6 (sN' (i := 0) hp5 rfl) (by omega) zh_33 (fun hp7 zq7 => ?_)
  refine xr_b q0_43 rfl ?_
  refine i_47 (ES4_s (sA (sA (ES3_s (sA (ES2_s (sA h0))))))) ?_
  have zh_39 := zq7.r (a := 0) (i := 3) (v := some 12) (zlt hp7 (by omega))
  refine i_6 rfl ?_
  refine a28 15 hp7 zh_39 rfl rfl ?_
  have hp8 := lA (E := [(8, 0)]) (n := 1) (q := 16) hp7 rfl rfl
  have zh_43 := zh_39.a [(8, 0)]
  refine i_19 rfl ?_
  refine i_55 (as := [.ref 15]) [.ref 15, .ref 0] rfl rfl rfl rfl rfl (sN' (i := 0) hp7 rfl) (by decide) (by decide) ?_
  refine z6 (d := d + 1) (a := 15) hp8 (sN' (i := 0) hp7 rfl) (by omega) zh_43 (fun hp9 zq9 => ?_)
  refine xr_b q0_54 rfl ?_
  refine i_47 (ES6_s (sA (ES4_s (sA (sA (ES3_s (sA (ES2_s (sA h0))))))))) ?_
  have zh_49 := zq9.r (a := 0) (i := 4) (v := some 15) (zlt hp9 (by omega))
  refine i_6 rfl ?_
  refine a28 19 hp9 zh_49 rfl rfl ?_
  have hp10 := lA (E := [(4, 0)]) (n := 1) (q := 20) hp9 rfl rfl
  have zh_53 := zh_49.a [(4, 0)]
  refine i_19 rfl ?_
  refine i_55 (as := [.ref 19]) [.ref 19, .ref 0] rfl rfl rfl rfl rfl (sN' (i := 0) hp9 rfl) (by decide) (by decide) ?_
  refine z7 (d := d + 2) (a := 19) hp10 (sN' (i := 0) hp9 rfl) (by omega) zh_53 (fun hp11 zq11 => ?_)
  refine xr_b q0_65 rfl ?_
  refine i_47 (ES7_s (sA (ES6_s (sA (ES4_s (sA (sA (ES3_s (sA (ES2_s (sA h0))))))))))) ?_
  have zh_59 := zq11.r (a := 0) (i := 5) (v := some 19) (zlt hp11 (by omega))
  refine i_6 rfl ?_
  refine a28 22 hp11 zh_59 rfl rfl ?_
  have hp12 := lA (E := [(3, 0)]) (n := 1) (q := 23) hp11 rfl rfl
  have zh_63 := zh_59.a [(3, 0)]
  refine i_19 rfl ?_
  refine i_55 (as := [.ref 22]) [.ref 22, .ref 0] rfl rfl rfl rfl rfl (sN' (i := 0) hp11 rfl) (by decide) (by decide) ?_
  refine z8 (d := d + 1) (a := 22) hp12 (sN' (i := 0) hp11 rfl) (by omega) zh_63 (fun hp13 zq13 => ?_)
  refine xr_b q0_76 rfl ?_
  refine i_47 (ES8_s (sA (ES7_s (sA (ES6_s (sA (ES4_s (sA (sA (ES3_s (sA (ES2_s (sA h0))))))))))))) ?_
  have zh_69 := zq13.r (a := 0) (i := 6) (v := some 22) (zlt hp13 (by omega))
  refine i_6 rfl ?_
  refine i_0 ?_
  refine a29 27 5 rfl hp13 zh_69 rfl rfl ?_
  have hp14 := lA (E := [(100, 5)]) (n := 1) (q := 28) hp13 rfl rfl
  have zh_74 := zh_69.a [(100, 5)]
  refine i_47 (sA (ES8_s (sA (ES7_s (sA (ES6_s (sA (ES4_s (sA (sA (ES3_s (sA (ES2_s (sA h0)))))))))))))) ?_
  have zh_76 := zh_74.r (a := 0) (i := 7) (v := some 27) (zlt hp14 (by omega))
  refine i_6 rfl ?_
  refine a28 28 hp14 zh_76 rfl rfl ?_
  have hp15 := lA (E := [(0, 0)]) (n := 1) (q := 29) hp14 rfl rfl
  have zh_80 := zh_76.a [(0, 0)]
  refine i_19 rfl ?_
  refine i_55 (as := [.ref 28]) [.ref 28, .ref 0] rfl rfl rfl rfl rfl (sN' (i := 0) hp14 rfl) (by decide) (by decide) ?_
  refine z9 (d := d) (a := 28) hp15 (sN' (i := 0) hp14 rfl) zh_80 (fun I16 f16 c16 hp16 zq16 ly16 => ?_)
  refine xr_b q0_94 rfl ?_
  refine i_47 (ES9_s (sA (sA (ES8_s (sA (ES7_s (sA (ES6_s (sA (ES4_s (sA (sA (ES3_s (sA (ES2_s (sA h0)))))))))))))))) ?_
  have zh_86 := zq16.r (a := 0) (i := 8) (v := some 28) (zlt hp16 (by omega))
  refine i_6 rfl ?_
  refine a28 46 hp16 zh_86 rfl rfl ?_
  have hp17 := lA (E := [(0, 0)]) (n := 1) (q := 47) hp16 rfl rfl
  have zh_90 := zh_86.a [(0, 0)]
  refine i_19 rfl ?_
  refine i_55 (as := [.ref 46]) [.ref 46, .ref 0] rfl rfl rfl rfl rfl (sN' (i := 0) hp16 rfl) (by decide) (by decide) ?_
  refine z9 (d := d) (a := 46) hp17 (sN' (i := 0) hp16 rfl) zh_90 (fun I18 f18 c18 hp18 zq18 ly18 => ?_)
  refine xr_b q0_105 rfl ?_
  refine i_47 (ES9_s (sA (ES9_s (sA (sA (ES8_s (sA (ES7_s (sA (ES6_s (sA (ES4_s (sA (sA (ES3_s (sA (ES2_s (sA h0)))))))))))))))))) ?_
  have zh_96 := zq18.r (a := 0) (i := 9) (v := some 46) (zlt hp18 (by omega))
  refine i_6 rfl ?_
  refine i_0 ?_
  refine a30 64 3 rfl hp18 zh_96 rfl rfl ?_
  have hp19 := lA (E := [(103, 3)]) (n := 1) (q := 65) hp18 rfl rfl
  have zh_101 := zh_96.a [(103, 3)]
  refine i_47 (sA (ES9_s (sA (ES9_s (sA (sA (ES8_s (sA (ES7_s (sA (ES6_s (sA (ES4_s (sA (sA (ES3_s (sA (ES2_s (sA h0))))))))))))))))))) ?_
  have zh_103 := zh_101.r (a := 0) (i := 10) (v := some 64) (zlt hp19 (by omega))
  refine i_6 rfl ?_
  refine i_0 ?_
  refine i_45 (sA (ES9_s (sA (ES9_s (sA (sA (ES8_s (sA (ES7_s (sA (ES6_s (sA (ES4_s (sA (sA (ES3_s (sA (ES2_s (sA h0))))))))))))))))))) ?_
  have zh_107 := zh_103.i (a := 0) (i := 14) (v := (-1 : Int32)) (zlt hp19 (by omega))
  refine i_6 rfl ?_
  refine i_0 ?_
  refine i_45 (sA (ES9_s (sA (ES9_s (sA (sA (ES8_s (sA (ES7_s (sA (ES6_s (sA (ES4_s (sA (sA (ES3_s (sA (ES2_s (sA h0))))))))))))))))))) ?_
  have zh_111 := zh_107.i (a := 0) (i := 15) (v := (-1 : Int32)) (zlt hp19 (by omega))
  refine i_27_3 ?_
  exact hQ I16 I18 f16 c16 f18 hp19 zh_111
abbrev S76 : XS := (S65 ++ [(10, 0)]) ++ [(100, 4)] ++ [(100, 4)] ++ [(101, 240)] ++ [(102, 900)] ++ [(100, 1725)] ++ [(100, 73)] ++ [(101, 30)] ++ [(100, 30)] ++ [(101, 16)] ++ [(100, 5)]
abbrev R76 (r : XR) : XR := up2 (up2 (up2 (up2 (up2 (up2 (up2 (up2 (up2 (up2 r 65 4 (some 66)) 65 5 (some 67)) 65 6 (some 68)) 65 7 (some 69)) 65 20 (some 70)) 65 21 (some 71)) 65 22 (some 72)) 65 27 (some 73)) 65 30 (some 74)) 65 31 (some 75)
theorem k189z {d : Nat} {Q : XQ} {S : XS} {J : XJ} {r : XR} (hL : LAY S r) : ∀ (j i cu su : Nat) (I : XI), i + j = 4 → (∀ I', (∀ x k, ¬ (x = 67 ∧ i ≤ k ∧ k < 4) → I' x k = I x k) → (∀ k, i ≤ k → k < 4 → I' 67 k = -1) → ∀ cu su, xrun z0 (xcall d) Q 189 119 [.ref 65, .int (nI 4)] [] S I' J r cu su) → xrun z0 (xcall d) Q 189 101 [.ref 65, .int (nI i)] [] S I J r cu su
  | 0, i, cu, su, I, hi, hQ => by
    have : i = 4 := by omega
    subst this
    exact xr_b q189_101 rfl (i_4 rfl (i_0 (i_23_3 (fun _ => hQ I (fun _ _ _ => rfl) (fun k h1 h2 => by omega) _ _) (fun c => absurd (by decide) c))))
  | j + 1, i, cu, su, I, hi, hQ => by
    refine xr_b q189_101 rfl (i_4 rfl (i_0 (i_23_3 (fun c => ?_) (fun _ => i_6 rfl (i_44 67 (hL.s 65 (10, 0) rfl) (hL.r 65 65 5 67 rfl) (i_4 rfl (i_0 (i_34 (hL.s 67 (100, 4) rfl) (vp_in_nI (by omega) (by decide)) (i_10 [.ref 65, .int (nI (i + 1))] rfl ?_ (i_24 ?_))))))))))
    · rw [i_le, i_toI (by omega)] at c
      have : (4 : Int32).toInt = 4 := rfl
      omega
    · show lset1 [.ref 65, .int (nI i)] 1 (.int (nI i + nI 1)) = _
      rw [nI_add]; rfl
    · rw [nI_clamp (by omega)]
      refine k189z hL j (i + 1) _ _ _ (by omega) (fun I' f1 f2 => hQ I' (fun x k hx => ?_) (fun k h1 h2 => ?_))
      · rw [f1 x k (by omega)]
        by_cases e : x = 67
        · subst e; rw [up_i (by omega)]
        · rw [up_o e]
      · rcases Nat.lt_or_ge i k with q | q
        · exact f2 k q h2
        · have : k = i := by omega
          subst this
          rw [f1 67 _ (by omega), up_e]
theorem k190z {d : Nat} {Q : XQ} {S : XS} {J : XJ} {r : XR} {w1 : Value} (hL : LAY S r) : ∀ (j i cu su : Nat) (I : XI), i + j = 345 → (∀ I', (∀ x k, ¬ (x = 70 ∧ i ≤ k ∧ k < 345) → I' x k = I x k) → (∀ k, i ≤ k → k < 345 → I' 70 k = 0) → Q none S (up2 (up2 (up2 I' 70 0 (nI 5)) 70 1 (nI 4)) 70 4 (nI 8)) J r) → xrun z0 (xcall d) Q 190 8 [.ref 65, w1, .int (nI 0), .int (nI i)] [] S I J r cu su
  | 0, i, cu, su, I, hi, hQ => by
    have : i = 345 := by omega
    subst this
    refine K190_8 hL (yes (by decide) ⟨vp_in_nI (by decide) (by decide), by rw [nI_add]; exact vp_in_nI (by decide) (by decide), by rw [nI_add]; exact vp_in_nI (by decide) (by decide), ?_⟩)
    rw [nI_add, nI_add, nI_clamp (by decide), nI_clamp (by decide), nI_clamp (by decide)]
    exact hQ I (fun _ _ _ => rfl) (fun k h1 h2 => by omega)
  | j + 1, i, cu, su, I, hi, hQ => by
    refine K190_8 hL (no (by rw [nI_leI (by decide) (by omega)]; omega) ?_)
    simp only [nI_add]
    rw [nI_clamp (by omega), Nat.zero_add]
    refine ⟨vp_in_nI (by omega) (by decide), k190z hL j (i + 1) cu su _ (by omega) (fun I' f1 f2 => hQ I' (fun x k hx => ?_) (fun k h1 h2 => ?_))⟩
    · rw [f1 x k (by omega)]
      by_cases e : x = 70
      · subst e; rw [up_i (by omega)]
      · rw [up_o e]
    · rcases Nat.lt_or_ge i k with q | q
      · exact f2 k q h2
      · have : k = i := by omega
        subst this
        rw [f1 70 _ (by omega), up_e]; rfl
theorem r190z {d : Nat} {Q : XQ} {S : XS} {I : XI} {J : XJ} {r : XR} (hL : LAY S r) (hQ : ∀ I', (∀ x k, ¬ (x = 70 ∧ k < 345) → I' x k = I x k) → (∀ k, k < 345 → I' 70 k = B0 k) → Q none S I' J r) : xcall (d + 1) 190 [.ref 65, .int (nI 0)] S I J r Q := by
  refine E190 ?_
  rw [show nI 345 * nI 0 = nI 0 from by decide]
  refine k190z hL 345 0 0 0 I rfl (fun I' f1 f2 => hQ _ (fun x k hx => ?_) (fun k hk => ?_))
  · have := f1 x k (by omega)
    by_cases e : x = 70
    · subst e
      rw [up_i (by omega), up_i (by omega), up_i (by omega)]; exact this
    · rw [up_o e, up_o e, up_o e]; exact this
  · by_cases e4 : k = 4
    · subst e4; rw [up_e]; rfl
    · rw [up_i (by omega)]
      by_cases e1 : k = 1
      · subst e1; rw [up_e]; rfl
      · rw [up_i (by omega)]
        by_cases e0 : k = 0
        · subst e0; rw [up_e]; rfl
        · rw [up_i (by omega), f2 k (by omega) hk, B0_z ⟨e0, e1, e4⟩]
theorem z189c {d : Nat} {Q : XQ} {I : XI} {J : XJ} {r : XR} (zh : ZH (S65 ++ [(10, 0)]) I J r) (hp : (S65 ++ [(10, 0)]).length = 66) (h65 : (S65 ++ [(10, 0)])[65]? = some (10, 0)) (hL : LAY S76 (R76 r)) (hQ : ∀ I', (∀ x k, ¬ (x = 67 ∧ k < 4) → ¬ (x = 70 ∧ k < 345) → I' x k = up2 (up2 I 65 10 (-1)) 65 11 (-1) x k) → (∀ k, k < 4 → I' 67 k = -1) → (∀ k, k < 345 → I' 70 k = B0 k) → S76.length = 76 → ZH S76 (up2 (up2 I 65 10 (-1)) 65 11 (-1)) (up2 J 65 3 (lN 1)) (R76 r) → Q none S76 I' (up2 J 65 3 (lN 1)) (R76 r)) : xcall (d + 2) 189 [.ref 65] (S65 ++ [(10, 0)]) I J r Q := by
  refine xc_b [.ref 65, .float 0] rfl rfl rfl ?_
  refine xr_b q189_0 rfl ?_
  refine i_6 rfl ?_
  refine i_49 rfl ?_
  refine i_6 rfl ?_
  refine i_1 ?_
  refine i_46 h65 ?_
  have zh_6 := zh.j (a := 65) (i := 3) (v := lN 1) (zlt hp (by omega))
  refine i_6 rfl ?_
  refine i_0 ?_
  refine a29 66 4 rfl hp zh_6 rfl rfl ?_
  have hp1 := lA (E := [(100, 4)]) (n := 1) (q := 67) hp rfl rfl
  have zh_11 := zh_6.a [(100, 4)]
  refine i_47 (sA h65) ?_
  have zh_13 := zh_11.r (a := 65) (i := 4) (v := some 66) (zlt hp1 (by omega))
  refine i_6 rfl ?_
  refine i_0 ?_
  refine a29 67 4 rfl hp1 zh_13 rfl rfl ?_
  have hp2 := lA (E := [(100, 4)]) (n := 1) (q := 68) hp1 rfl rfl
  have zh_18 := zh_13.a [(100, 4)]
  refine i_47 (sA (sA h65)) ?_
  have zh_20 := zh_18.r (a := 65) (i := 5) (v := some 67) (zlt hp2 (by omega))
  refine i_6 rfl ?_
  refine i_0 ?_
  refine a29 68 240 rfl hp2 zh_20 rfl rfl ?_
  have hp3 := lA (E := [(101, 240)]) (n := 1) (q := 69) hp2 rfl rfl
  have zh_25 := zh_20.a [(101, 240)]
  refine i_47 (sA (sA (sA h65))) ?_
  have zh_27 := zh_25.r (a := 65) (i := 6) (v := some 68) (zlt hp3 (by omega))
  refine i_6 rfl ?_
  refine i_0 ?_
  refine a29 69 900 rfl hp3 zh_27 rfl rfl ?_
  have hp4 := lA (E := [(102, 900)]) (n := 1) (q := 70) hp3 rfl rfl
  have zh_32 := zh_27.a [(102, 900)]
  refine i_47 (sA (sA (sA (sA h65)))) ?_
  have zh_34 := zh_32.r (a := 65) (i := 7) (v := some 69) (zlt hp4 (by omega))
  refine i_6 rfl ?_
  refine i_0 ?_
  refine i_45 (sA (sA (sA (sA h65)))) ?_
  have zh_38 := zh_34.i (a := 65) (i := 10) (v := (-1 : Int32)) (zlt hp4 (by omega))
  refine i_6 rfl ?_
  refine i_0 ?_
  refine i_45 (sA (sA (sA (sA h65)))) ?_
  have zh_42 := zh_38.i (a := 65) (i := 11) (v := (-1 : Int32)) (zlt hp4 (by omega))
  refine i_6 rfl ?_
  refine i_0 ?_
  refine a29 70 1725 rfl hp4 zh_42 rfl rfl ?_
  have hp5 := lA (E := [(100, 1725)]) (n := 1) (q := 71) hp4 rfl rfl
  have zh_47 := zh_42.a [(100, 1725)]
  refine i_47 (sA (sA (sA (sA (sA h65))))) ?_
  have zh_49 := zh_47.r (a := 65) (i := 20) (v := some 70) (zlt hp5 (by omega))
  refine i_6 rfl ?_
  refine i_0 ?_
  refine a29 71 73 rfl hp5 zh_49 rfl rfl ?_
  have hp6 := lA (E := [(100, 73)]) (n := 1) (q := 72) hp5 rfl rfl
  have zh_54 := zh_49.a [(100, 73)]
  refine i_47 (sA (sA (sA (sA (sA (sA h65)))))) ?_
  have zh_56 := zh_54.r (a := 65) (i := 21) (v := some 71) (zlt hp6 (by omega))
  refine i_6 rfl ?_
  refine i_0 ?_
  refine a29 72 30 rfl hp6 zh_56 rfl rfl ?_
  have hp7 := lA (E := [(101, 30)]) (n := 1) (q := 73) hp6 rfl rfl
  have zh_61 := zh_56.a [(101, 30)]
  refine i_47 (sA (sA (sA (sA (sA (sA (sA h65))))))) ?_
  have zh_63 := zh_61.r (a := 65) (i := 22) (v := some 72) (zlt hp7 (by omega))
  refine i_6 rfl ?_
  refine i_0 ?_
  refine a29 73 30 rfl hp7 zh_63 rfl rfl ?_
  have hp8 := lA (E := [(100, 30)]) (n := 1) (q := 74) hp7 rfl rfl
  have zh_68 := zh_63.a [(100, 30)]
  refine i_47 (sA (sA (sA (sA (sA (sA (sA (sA h65)))))))) ?_
  have zh_70 := zh_68.r (a := 65) (i := 27) (v := some 73) (zlt hp8 (by omega))
  refine i_6 rfl ?_
  refine i_0 ?_
  refine a29 74 16 rfl hp8 zh_70 rfl rfl ?_
  have hp9 := lA (E := [(101, 16)]) (n := 1) (q := 75) hp8 rfl rfl
  have zh_75 := zh_70.a [(101, 16)]
  refine i_47 (sA (sA (sA (sA (sA (sA (sA (sA (sA h65))))))))) ?_
  have zh_77 := zh_75.r (a := 65) (i := 30) (v := some 74) (zlt hp9 (by omega))
  refine i_6 rfl ?_
  refine i_0 ?_
  refine a29 75 5 rfl hp9 zh_77 rfl rfl ?_
  have hp10 := lA (E := [(100, 5)]) (n := 1) (q := 76) hp9 rfl rfl
  have zh_82 := zh_77.a [(100, 5)]
  refine i_47 (sA (sA (sA (sA (sA (sA (sA (sA (sA (sA h65)))))))))) ?_
  have zh_84 := zh_82.r (a := 65) (i := 31) (v := some 75) (zlt hp10 (by omega))
  refine i_0 ?_
  refine i_7 [.ref 65, .int (nI 0)] rfl ?_
  refine i_24 ?_
  refine k189z hL 4 0 _ _ _ rfl (fun I' f1 f2 cu su => ?_)
  refine xr_b q189_119 rfl (i_6 rfl (i_0 (i_48v (as := [.ref 65, .int (nI 0)]) [] rfl rfl rfl rfl rfl (hL.s 65 (10, 0) rfl) (r190z (d := d) hL (fun I2 g1 g2 => xr_b q189_124 rfl (i_27_3 ?_))))))
  refine hQ I2 (fun x k a b => ?_) (fun k hk => ?_) g2 hp10 zh_84
  · rw [g1 x k b, f1 x k (by omega)]
  · rw [g1 67 k (by omega), f2 k (Nat.zero_le _) hk]
