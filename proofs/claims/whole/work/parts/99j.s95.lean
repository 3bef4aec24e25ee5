/-! constructors -/
theorem zlt {S : XS} {a p : Nat} (hp : S.length = p) (h : a < p) : a < S.length := by omega
theorem a31 {sc : Nat × (Nat → Int32)} {cl : XC} {nx : XN} {Q : XQ} {mc ms : Nat} {l a b d h n e : Nat} {z : Int32} {w : Int64} {is : List XO} {L st : XV} {S : XS} {I : XI} {J : XJ} {r : XR} {cu su : Nat} (p : Nat) (hp : S.length = p) (zh : ZH S I J r) (hc : Nat.ble (cu + 5) mc = true) (hs : Nat.ble (su + 244) ms = true) (hx : ∃ q n1 : Nat, S[q]? = some (101, n1)) (k : xwp sc cl nx Q mc ms is L (.ref p :: st) (S ++ [(104, 4), (101, 60), (101, 60), (101, 60), (101, 60)]) I J (up2 (up2 (up2 (up2 r p 0 (some (p + 1))) p 1 (some (p + 2))) p 2 (some (p + 3))) p 3 (some (p + 4))) (cu + 5) (su + 244)) : xwp sc cl nx Q mc ms ((31, l, a, b, d, h, n, e, z, w) :: is) L (.int 60 :: .int 4 :: st) S I J r cu su := by
  subst hp
  refine ⟨hx, rfl, rfl, Nat.le_of_ble_eq_true hc, Nat.le_of_ble_eq_true hs, ?_⟩
  have e1 : (fun q k => if S.length ≤ q then (0 : Int32) else I q k) = I := funext fun q => funext fun k => by
    split
    · rename_i g; exact (zh q g k).1.symm
    · rfl
  have e2 : (fun q k => if S.length ≤ q then (0 : Int64) else J q k) = J := funext fun q => funext fun k => by
    split
    · rename_i g; exact (zh q g k).2.1.symm
    · rfl
  have e3 : (fun q k => if q = S.length then (if k < 4 then some (S.length + 1 + k) else none) else if S.length < q then none else r q k) = up2 (up2 (up2 (up2 r S.length 0 (some (S.length + 1))) S.length 1 (some (S.length + 2))) S.length 2 (some (S.length + 3))) S.length 3 (some (S.length + 4)) := funext fun q => funext fun k => by
    by_cases g : q = S.length
    · subst g
      rw [if_pos rfl]
      by_cases k3 : k = 3
      · subst k3; rw [up_e]; rfl
      rw [up_i k3]
      by_cases k2 : k = 2
      · subst k2; rw [up_e]; rfl
      rw [up_i k2]
      by_cases k1 : k = 1
      · subst k1; rw [up_e]; rfl
      rw [up_i k1]
      by_cases k0 : k = 0
      · subst k0; rw [up_e]; rfl
      rw [up_i k0, if_neg (by omega)]
      exact (zh _ (Nat.le_refl _) k).2.2.symm
    · rw [if_neg g, up_o g, up_o g, up_o g, up_o g]
      split
      · rename_i g2; exact (zh q (by omega) k).2.2.symm
      · rfl
  rw [e1, e2, e3]
  exact k
theorem a31z {S : XS} {I : XI} {J : XJ} {r : XR} {p : Nat} (hp : S.length = p) (zh : ZH S I J r) : ZH (S ++ [(104, 4), (101, 60), (101, 60), (101, 60), (101, 60)]) I J (up2 (up2 (up2 (up2 r p 0 (some (p + 1))) p 1 (some (p + 2))) p 2 (some (p + 3))) p 3 (some (p + 4))) := by
  have hl := lA (E := [(104, 4), (101, 60), (101, 60), (101, 60), (101, 60)]) (n := 5) (q := p + 5) hp rfl rfl
  exact ((((zh.a _).r (zlt hl (by omega))).r (zlt hl (by omega))).r (zlt hl (by omega))).r (zlt hl (by omega))
abbrev ES10 (S : XS) : XS := S ++ [(100, 60)] ++ [(100, 60)] ++ [(100, 60)] ++ [(100, 60)] ++ [(100, 60)] ++ [(100, 60)]
abbrev RS10 (r : XR) (a p : Nat) : XR := up2 (up2 (up2 (up2 (up2 (up2 r a 3 (some p)) a 4 (some (p + 1))) a 5 (some (p + 2))) a 6 (some (p + 3))) a 7 (some (p + 4))) a 8 (some (p + 5))
theorem ES10_s {S : XS} {q : Nat} {x : Nat × Nat} (h : S[q]? = some x) : (ES10 S)[q]? = some x := (sA (sA (sA (sA (sA (sA h))))))
theorem ES10_c {S : XS} {p : Nat} (hp : S.length = p) : (ES10 S)[p]? = some (100, 60) ∧ (ES10 S)[p + 1]? = some (100, 60) ∧ (ES10 S)[p + 2]? = some (100, 60) ∧ (ES10 S)[p + 3]? = some (100, 60) ∧ (ES10 S)[p + 4]? = some (100, 60) ∧ (ES10 S)[p + 5]? = some (100, 60) := by
  have hp1 := lA (E := [(100, 60)]) (n := 1) (q := p + 1) hp rfl rfl
  have hp2 := lA (E := [(100, 60)]) (n := 1) (q := p + 2) hp1 rfl rfl
  have hp3 := lA (E := [(100, 60)]) (n := 1) (q := p + 3) hp2 rfl rfl
  have hp4 := lA (E := [(100, 60)]) (n := 1) (q := p + 4) hp3 rfl rfl
  have hp5 := lA (E := [(100, 60)]) (n := 1) (q := p + 5) hp4 rfl rfl
  have hp6 := lA (E := [(100, 60)]) (n := 1) (q := p + 6) hp5 rfl rfl
  exact ⟨(sA (sA (sA (sA (sA (sN' (i := 0) hp rfl)))))), (sA (sA (sA (sA (sN' (i := 0) hp1 rfl))))), (sA (sA (sA (sN' (i := 0) hp2 rfl)))), (sA (sA (sN' (i := 0) hp3 rfl))), (sA (sN' (i := 0) hp4 rfl)), (sN' (i := 0) hp5 rfl)⟩
theorem z10 {d : Nat} {Q : XQ} {S : XS} {I : XI} {J : XJ} {r : XR} {a p : Nat} (hp : S.length = p) (ha : S[a]? = some (7, 0)) (hla : a < p) (zh : ZH S I J r) (hQ : (ES10 S).length = p + 6 → ZH (ES10 S) I J (RS10 r a p) → Q none (ES10 S) I J (RS10 r a p)) : xcall (d + 1) 10 [.ref a] S I J r Q := by
  refine xc_b [.ref a] rfl rfl rfl ?_
  refine xr_b q10_0 rfl ?_
  refine i_6 rfl ?_
  refine i_49 rfl ?_
  refine i_6 rfl ?_
  refine i_0 ?_
  refine a29 p 60 rfl hp zh rfl rfl ?_
  have hp1 := lA (E := [(100, 60)]) (n := 1) (q := p + 1) hp rfl rfl
  have zh_7 := zh.a [(100, 60)]
  refine i_47 (sA ha) ?_
  have zh_9 := zh_7.r (a := a) (i := 3) (v := some p) (zlt hp1 (by omega))
  refine i_6 rfl ?_
  refine i_0 ?_
  refine a29 (p + 1) 60 rfl hp1 zh_9 rfl rfl ?_
  have hp2 := lA (E := [(100, 60)]) (n := 1) (q := p + 2) hp1 rfl rfl
  have zh_14 := zh_9.a [(100, 60)]
  refine i_47 (sA (sA ha)) ?_
  have zh_16 := zh_14.r (a := a) (i := 4) (v := some (p + 1)) (zlt hp2 (by omega))
  refine i_6 rfl ?_
  refine i_0 ?_
  refine a29 (p + 2) 60 rfl hp2 zh_16 rfl rfl ?_
  have hp3 := lA (E := [(100, 60)]) (n := 1) (q := p + 3) hp2 rfl rfl
  have zh_21 := zh_16.a [(100, 60)]
  refine i_47 (sA (sA (sA ha))) ?_
  have zh_23 := zh_21.r (a := a) (i := 5) (v := some (p + 2)) (zlt hp3 (by omega))
  refine i_6 rfl ?_
  refine i_0 ?_
  refine a29 (p + 3) 60 rfl hp3 zh_23 rfl rfl ?_
  have hp4 := lA (E := [(100, 60)]) (n := 1) (q := p + 4) hp3 rfl rfl
  have zh_28 := zh_23.a [(100, 60)]
  refine i_47 (sA (sA (sA (sA ha)))) ?_
  have zh_30 := zh_28.r (a := a) (i := 6) (v := some (p + 3)) (zlt hp4 (by omega))
  refine i_6 rfl ?_
  refine i_0 ?_
  refine a29 (p + 4) 60 rfl hp4 zh_30 rfl rfl ?_
  have hp5 := lA (E := [(100, 60)]) (n := 1) (q := p + 5) hp4 rfl rfl
  have zh_35 := zh_30.a [(100, 60)]
  refine i_47 (sA (sA (sA (sA (sA ha))))) ?_
  have zh_37 := zh_35.r (a := a) (i := 7) (v := some (p + 4)) (zlt hp5 (by omega))
  refine i_6 rfl ?_
  refine i_0 ?_
  refine a29 (p + 5) 60 rfl hp5 zh_37 rfl rfl ?_
  have hp6 := lA (E := [(100, 60)]) (n := 1) (q := p + 6) hp5 rfl rfl
  have zh_42 := zh_37.a [(100, 60)]
  refine i_47 (sA (sA (sA (sA (sA (sA ha)))))) ?_
  have zh_44 := zh_42.r (a := a) (i := 8) (v := some (p + 5)) (zlt hp6 (by omega))
  refine i_27_3 ?_
  exact hQ hp6 zh_44
abbrev ES9 (S : XS) : XS := ES10 (S ++ [(100, 15)] ++ [(100, 15)] ++ [(100, 11)] ++ [(101, 6)] ++ [(100, 6)] ++ [(100, 6)] ++ [(100, 6)] ++ [(100, 6)] ++ [(100, 6)] ++ [(100, 6)] ++ [(7, 0)])
abbrev RS9 (r : XR) (a : Nat) : XR := up2 (RS10 (up2 (up2 (up2 (up2 (up2 (up2 (up2 (up2 (up2 (up2 r a 4 (some (a + 1))) a 5 (some (a + 2))) a 6 (some (a + 3))) a 8 (some (a + 4))) a 9 (some (a + 5))) a 10 (some (a + 6))) a 11 (some (a + 7))) a 12 (some (a + 8))) a 13 (some (a + 9))) a 14 (some (a + 10))) (a + 11) (a + 12)) a 18 (some (a + 11))
theorem ES9_s {S : XS} {q : Nat} {x : Nat × Nat} (h : S[q]? = some x) : (ES9 S)[q]? = some x := (ES10_s (sA (sA (sA (sA (sA (sA (sA (sA (sA (sA (sA h))))))))))))
theorem z9 {d : Nat} {Q : XQ} {S : XS} {I : XI} {J : XJ} {r : XR} {a : Nat} (hp : S.length = a + 1) (ha : S[a]? = some (0, 0)) (zh : ZH S I J r) (hQ : ∀ I', (∀ x, x ≠ a → x ≠ a + 3 → x ≠ a + 11 → I' x = I x) → (CR I' J a B0 (fun _ => 0) ∧ I' (a + 11) 0 = 0 ∧ I' (a + 11) 1 = 0 ∧ I' (a + 11) 2 = 0) → (ES9 S).length = a + 18 → ZH (ES9 S) I' J (RS9 r a) → LY0 (ES9 S) (RS9 r a) a → Q none (ES9 S) I' J (RS9 r a)) : xcall (d + 3) 9 [.ref a] S I J r Q := by
  refine xc_b [.ref a] rfl rfl rfl ?_
  have hla : a < a + 1 := Nat.lt_succ_self a
  refine xr_b q9_0 rfl ?_
  refine i_6 rfl ?_
  refine i_49 rfl ?_
  refine i_6 rfl ?_
  refine i_0 ?_
  refine a29 (a + 1) 15 rfl hp zh rfl rfl ?_
  have hp1 := lA (E := [(100, 15)]) (n := 1) (q := a + 2) hp rfl rfl
  have zh_7 := zh.a [(100, 15)]
  refine i_47 (sA ha) ?_
  have zh_9 := zh_7.r (a := a) (i := 4) (v := some (a + 1)) (zlt hp1 (by omega))
  refine i_6 rfl ?_
  refine i_0 ?_
  refine a29 (a + 2) 15 rfl hp1 zh_9 rfl rfl ?_
  have hp2 := lA (E := [(100, 15)]) (n := 1) (q := a + 3) hp1 rfl rfl
  have zh_14 := zh_9.a [(100, 15)]
  refine i_47 (sA (sA ha)) ?_
  have zh_16 := zh_14.r (a := a) (i := 5) (v := some (a + 2)) (zlt hp2 (by omega))
  refine i_6 rfl ?_
  refine i_0 ?_
  refine a29 (a + 3) 11 rfl hp2 zh_16 rfl rfl ?_
  have hp3 := lA (E := [(100, 11)]) (n := 1) (q := a + 4) hp2 rfl rfl
  have zh_21 := zh_16.a [(100, 11)]
  refine i_47 (sA (sA (sA ha))) ?_
  have zh_23 := zh_21.r (a := a) (i := 6) (v := some (a + 3)) (zlt hp3 (by omega))
  refine i_6 rfl ?_
  refine i_0 ?_
  refine a29 (a + 4) 6 rfl hp3 zh_23 rfl rfl ?_
  have hp4 := lA (E := [(101, 6)]) (n := 1) (q := a + 5) hp3 rfl rfl
  have zh_28 := zh_23.a [(101, 6)]
  refine i_47 (sA (sA (sA (sA ha)))) ?_
  have zh_30 := zh_28.r (a := a) (i := 8) (v := some (a + 4)) (zlt hp4 (by omega))
  refine i_6 rfl ?_
  refine i_0 ?_
  refine a29 (a + 5) 6 rfl hp4 zh_30 rfl rfl ?_
  have hp5 := lA (E := [(100, 6)]) (n := 1) (q := a + 6) hp4 rfl rfl
  have zh_35 := zh_30.a [(100, 6)]
  refine i_47 (sA (sA (sA (sA (sA ha))))) ?_
  have zh_37 := zh_35.r (a := a) (i := 9) (v := some (a + 5)) (zlt hp5 (by omega))
  refine i_6 rfl ?_
  refine i_0 ?_
  refine a29 (a + 6) 6 rfl hp5 zh_37 rfl rfl ?_
  have hp6 := lA (E := [(100, 6)]) (n := 1) (q := a + 7) hp5 rfl rfl
  have zh_42 := zh_37.a [(100, 6)]
  refine i_47 (sA (sA (sA (sA (sA (sA ha)))))) ?_
  have zh_44 := zh_42.r (a := a) (i := 10) (v := some (a + 6)) (zlt hp6 (by omega))
  refine i_6 rfl ?_
  refine i_0 ?_
  refine a29 (a + 7) 6 rfl hp6 zh_44 rfl rfl ?_
  have hp7 := lA (E := [(100, 6)]) (n := 1) (q := a + 8) hp6 rfl rfl
  have zh_49 := zh_44.a [(100, 6)]
  refine i_47 (sA (sA (sA (sA (sA (sA (sA ha))))))) ?_
  have zh_51 := zh_49.r (a := a) (i := 11) (v := some (a + 7)) (zlt hp7 (by omega))
  refine i_6 rfl ?_
  refine i_0 ?_
  refine a29 (a + 8) 6 rfl hp7 zh_51 rfl rfl ?_
  have hp8 := lA (E := [(100, 6)]) (n := 1) (q := a + 9) hp7 rfl rfl
  have zh_56 := zh_51.a [(100, 6)]
  refine i_47 (sA (sA (sA (sA (sA (sA (sA (sA ha)))))))) ?_
  have zh_58 := zh_56.r (a := a) (i := 12) (v := some (a + 8)) (zlt hp8 (by omega))
  refine i_6 rfl ?_
  refine i_0 ?_
  refine a29 (a + 9) 6 rfl hp8 zh_58 rfl rfl ?_
  have hp9 := lA (E := [(100, 6)]) (n := 1) (q := a + 10) hp8 rfl rfl
  have zh_63 := zh_58.a [(100, 6)]
  refine i_47 (sA (sA (sA (sA (sA (sA (sA (sA (sA ha))))))))) ?_
  have zh_65 := zh_63.r (a := a) (i := 13) (v := some (a + 9)) (zlt hp9 (by omega))
  refine i_6 rfl ?_
  refine i_0 ?_
  refine a29 (a + 10) 6 rfl hp9 zh_65 rfl rfl ?_
  have hp10 := lA (E := [(100, 6)]) (n := 1) (q := a + 11) hp9 rfl rfl
  have zh_70 := zh_65.a [(100, 6)]
  refine i_47 (sA (sA (sA (sA (sA (sA (sA (sA (sA (sA ha)))))))))) ?_
  have zh_72 := zh_70.r (a := a) (i := 14) (v := some (a + 10)) (zlt hp10 (by omega))
  refine i_6 rfl ?_
  refine a28 (a + 11) hp10 zh_72 rfl rfl ?_
  have hp11 := lA (E := [(7, 0)]) (n := 1) (q := a + 12) hp10 rfl rfl
  have zh_76 := zh_72.a [(7, 0)]
  refine i_19 rfl ?_
  refine i_55 (as := [.ref (a + 11)]) [.ref (a + 11), .ref a] rfl rfl rfl rfl rfl (sN' (i := 0) hp10 rfl) (by decide) (by decide) ?_
  refine z10 (d := d + 1) (a := (a + 11)) hp11 (sN' (i := 0) hp10 rfl) (by omega) zh_76 (fun hp12 zq12 => ?_)
  refine xr_b q9_92 rfl ?_
  refine i_47 (ES10_s (sA (sA (sA (sA (sA (sA (sA (sA (sA (sA (sA ha)))))))))))) ?_
  have zh_82 := zq12.r (a := a) (i := 18) (v := some (a + 11)) (zlt hp12 (by omega))
  refine i_6 rfl ?_
  refine i_48v (as := [.ref a]) [] rfl rfl rfl rfl rfl (ES10_s (sA (sA (sA (sA (sA (sA (sA (sA (sA (sA (sA ha)))))))))))) ?_
  have ly : LY0 (ES9 S) (RS9 r a) a := by
    exact ⟨(ES10_s (sA (sA (sA (sA (sA (sA (sA (sA (sA (sA (sA ha)))))))))))), (by simp (disch := omega) only [up_o, up_i, up_e]), (ES10_s (sA (sA (sA (sA (sA (sA (sA (sA (sA (sA (sN' (i := 0) hp rfl)))))))))))), (by simp (disch := omega) only [up_o, up_i, up_e]), (ES10_s (sA (sA (sA (sA (sA (sA (sA (sA (sA (sN' (i := 0) hp1 rfl))))))))))), (by simp (disch := omega) only [up_o, up_i, up_e]), (ES10_s (sA (sA (sA (sA (sA (sA (sA (sA (sN' (i := 0) hp2 rfl)))))))))), (by simp (disch := omega) only [up_o, up_i, up_e]), (ES10_s (sA (sA (sA (sA (sA (sA (sA (sN' (i := 0) hp3 rfl))))))))), (by simp (disch := omega) only [up_o, up_i, up_e]), (ES10_s (sA (sA (sA (sA (sA (sA (sN' (i := 0) hp4 rfl)))))))), (by simp (disch := omega) only [up_o, up_i, up_e]), (ES10_s (sA (sA (sA (sA (sA (sN' (i := 0) hp5 rfl))))))), (by simp (disch := omega) only [up_o, up_i, up_e]), (ES10_s (sA (sA (sA (sA (sN' (i := 0) hp6 rfl)))))), (by simp (disch := omega) only [up_o, up_i, up_e]), (ES10_s (sA (sA (sA (sN' (i := 0) hp7 rfl))))), (by simp (disch := omega) only [up_o, up_i, up_e]), (ES10_s (sA (sA (sN' (i := 0) hp8 rfl)))), (by simp (disch := omega) only [up_o, up_i, up_e]), (ES10_s (sA (sN' (i := 0) hp9 rfl))), (by simp (disch := omega) only [up_o, up_i, up_e]), (ES10_s (sN' (i := 0) hp10 rfl)), (by simp (disch := omega) only [up_o, up_i, up_e]), (ES10_c hp11).1, (by simp (disch := omega) only [up_o, up_i, up_e]), (ES10_c hp11).2.1, (by simp (disch := omega) only [up_o, up_i, up_e]), (ES10_c hp11).2.2.1, (by simp (disch := omega) only [up_o, up_i, up_e]), (ES10_c hp11).2.2.2.1, (by simp (disch := omega) only [up_o, up_i, up_e]), (ES10_c hp11).2.2.2.2.1, (by simp (disch := omega) only [up_o, up_i, up_e]), (ES10_c hp11).2.2.2.2.2⟩
  refine c11 (d := d) (W := fun _ => 0) ly (fun I1 f1 c1 y0 y1 y2 => ?_)
  refine xr_b q9_99 rfl ?_
  refine i_27_3 ?_
  exact hQ I1 f1 ⟨c1, y0, y1, y2⟩ hp12 (fun q hq k => by rw [f1 q (by rw [hp12] at hq; omega) (by rw [hp12] at hq; omega) (by rw [hp12] at hq; omega)]; exact zh_82 q hq k) ly
abbrev ES2 (S : XS) : XS := S ++ [(101, 16)]
abbrev RS2 (r : XR) (a p : Nat) : XR := up2 r a 2 (some p)
abbrev JS2 (J : XJ) (a : Nat) : XJ := up2 (up2 J a 0 (lN 0)) a 1 (lN 1)
theorem ES2_s {S : XS} {q : Nat} {x : Nat × Nat} (h : S[q]? = some x) : (ES2 S)[q]? = some x := (sA h)
theorem z2 {d : Nat} {Q : XQ} {S : XS} {I : XI} {J : XJ} {r : XR} {a p : Nat} (hp : S.length = p) (ha : S[a]? = some (2, 0)) (hla : a < p) (zh : ZH S I J r) (hQ : (ES2 S).length = p + 1 → ZH (ES2 S) I (JS2 J a) (RS2 r a p) → Q none (ES2 S) I (JS2 J a) (RS2 r a p)) : xcall (d + 1) 2 [.ref a] S I J r Q := by
  refine xc_b [.ref a] rfl rfl rfl ?_
  refine xr_b q2_0 rfl ?_
  refine i_6 rfl ?_
  refine i_49 rfl ?_
  refine i_6 rfl ?_
  refine i_1 ?_
  refine i_46 ha ?_
  have zh_6 := zh.j (a := a) (i := 0) (v := lN 0) (zlt hp (by omega))
  refine i_6 rfl ?_
  refine i_1 ?_
  refine i_46 ha ?_
  have zh_10 := zh_6.j (a := a) (i := 1) (v := lN 1) (zlt hp (by omega))
  refine i_6 rfl ?_
  refine i_0 ?_
  refine a29 p 16 rfl hp zh_10 rfl rfl ?_
  have hp1 := lA (E := [(101, 16)]) (n := 1) (q := p + 1) hp rfl rfl
  have zh_15 := zh_10.a [(101, 16)]
  refine i_47 (sA ha) ?_
  have zh_17 := zh_15.r (a := a) (i := 2) (v := some p) (zlt hp1 (by omega))
  refine i_27_3 ?_
  exact hQ hp1 zh_17
abbrev ES3 (S : XS) : XS := S ++ [(104, 4), (101, 60), (101, 60), (101, 60), (101, 60)] ++ [(100, 4)] ++ [(100, 4)]
abbrev RS3 (r : XR) (a p : Nat) : XR := up2 (up2 (up2 (up2 (up2 (up2 (up2 r p 0 (some (p + 1))) p 1 (some (p + 2))) p 2 (some (p + 3))) p 3 (some (p + 4))) a 0 (some p)) a 1 (some (p + 5))) a 2 (some (p + 6))
abbrev IS3 (I : XI) (p : Nat) : XI := up2 (up2 (up2 (up2 I (p + 6) 0 ((-1 : Int32))) (p + 6) 1 ((-1 : Int32))) (p + 6) 2 ((-1 : Int32))) (p + 6) 3 ((-1 : Int32))
theorem ES3_s {S : XS} {q : Nat} {x : Nat × Nat} (h : S[q]? = some x) : (ES3 S)[q]? = some x := (sA (sA (sA h)))
theorem z3 {d : Nat} {Q : XQ} {S : XS} {I : XI} {J : XJ} {r : XR} {a p : Nat} (hp : S.length = p) (ha : S[a]? = some (6, 0)) (hla : a < p) (zh : ZH S I J r) (a31h : ∃ q n1 : Nat, S[q]? = some (101, n1)) (hQ : (ES3 S).length = p + 7 → ZH (ES3 S) (IS3 I p) J (RS3 r a p) → Q none (ES3 S) (IS3 I p) J (RS3 r a p)) : xcall (d + 1) 3 [.ref a] S I J r Q := by
  refine xc_b [.ref a] rfl rfl rfl ?_
  refine xr_b q3_0 rfl ?_
  refine i_6 rfl ?_
  refine i_49 rfl ?_
  refine i_6 rfl ?_
  refine i_0 ?_
  refine i_0 ?_
  refine a31 p hp zh rfl rfl a31h ?_
  have hp1 := lA (E := [(104, 4), (101, 60), (101, 60), (101, 60), (101, 60)]) (n := 5) (q := p + 5) hp rfl rfl
  have zh_8 := a31z hp zh
  refine i_47 (sA ha) ?_
  have zh_10 := zh_8.r (a := a) (i := 0) (v := some p) (zlt hp1 (by omega))
  refine i_6 rfl ?_
  refine i_0 ?_
  refine a29 (p + 5) 4 rfl hp1 zh_10 rfl rfl ?_
  have hp2 := lA (E := [(100, 4)]) (n := 1) (q := p + 6) hp1 rfl rfl
  have zh_15 := zh_10.a [(100, 4)]
  refine i_47 (sA (sA ha)) ?_
  have zh_17 := zh_15.r (a := a) (i := 1) (v := some (p + 5)) (zlt hp2 (by omega))
  refine i_6 rfl ?_
  refine i_0 ?_
  refine a29 (p + 6) 4 rfl hp2 zh_17 rfl rfl ?_
  have hp3 := lA (E := [(100, 4)]) (n := 1) (q := p + 7) hp2 rfl rfl
  have zh_22 := zh_17.a [(100, 4)]
  refine i_19 rfl ?_
  refine i_0 ?_
  refine i_0 ?_
  refine i_34 (sN' (i := 0) hp2 rfl) (vpl (by decide)) ?_
  have zh_27 := zh_22.i (a := p + 6) (i := 0) (v := (-1 : Int32)) (zlt hp3 (by omega))
  refine i_19 rfl ?_
  refine i_0 ?_
  refine i_0 ?_
  refine i_34 (sN' (i := 0) hp2 rfl) (vpl (by decide)) ?_
  have zh_32 := zh_27.i (a := p + 6) (i := 1) (v := (-1 : Int32)) (zlt hp3 (by omega))
  refine i_19 rfl ?_
  refine i_0 ?_
  refine i_0 ?_
  refine i_34 (sN' (i := 0) hp2 rfl) (vpl (by decide)) ?_
  have zh_37 := zh_32.i (a := p + 6) (i := 2) (v := (-1 : Int32)) (zlt hp3 (by omega))
  refine i_19 rfl ?_
  refine i_0 ?_
  refine i_0 ?_
  refine i_34 (sN' (i := 0) hp2 rfl) (vpl (by decide)) ?_
  have zh_42 := zh_37.i (a := p + 6) (i := 3) (v := (-1 : Int32)) (zlt hp3 (by omega))
  refine i_47 (sA (sA (sA ha))) ?_
  have zh_44 := zh_42.r (a := a) (i := 2) (v := some (p + 6)) (zlt hp3 (by omega))
  refine i_27_3 ?_
  exact hQ hp3 zh_44
abbrev ES5 (S : XS) : XS := S ++ [(102, 900)]
abbrev RS5 (r : XR) (a p : Nat) : XR := up2 r a 0 (some p)
theorem ES5_s {S : XS} {q : Nat} {x : Nat × Nat} (h : S[q]? = some x) : (ES5 S)[q]? = some x := (sA h)
theorem z5 {d : Nat} {Q : XQ} {S : XS} {I : XI} {J : XJ} {r : XR} {a p : Nat} (hp : S.length = p) (ha : S[a]? = some (5, 0)) (hla : a < p) (zh : ZH S I J r) (hQ : (ES5 S).length = p + 1 → ZH (ES5 S) I J (RS5 r a p) → Q none (ES5 S) I J (RS5 r a p)) : xcall (d + 1) 5 [.ref a] S I J r Q := by
  refine xc_b [.ref a] rfl rfl rfl ?_
  refine xr_b q5_0 rfl ?_
  refine i_6 rfl ?_
  refine i_49 rfl ?_
  refine i_6 rfl ?_
  refine i_0 ?_
  refine a29 p 900 rfl hp zh rfl rfl ?_
  have hp1 := lA (E := [(102, 900)]) (n := 1) (q := p + 1) hp rfl rfl
  have zh_7 := zh.a [(102, 900)]
  refine i_47 (sA ha) ?_
  have zh_9 := zh_7.r (a := a) (i := 0) (v := some p) (zlt hp1 (by omega))
  refine i_27_3 ?_
  exact hQ hp1 zh_9
abbrev ES4 (S : XS) : XS := ES5 (S ++ [(5, 0)])
abbrev RS4 (r : XR) (a p : Nat) : XR := up2 (RS5 r p (p + 1)) a 0 (some p)
theorem ES4_s {S : XS} {q : Nat} {x : Nat × Nat} (h : S[q]? = some x) : (ES4 S)[q]? = some x := (ES5_s (sA h))
theorem z4 {d : Nat} {Q : XQ} {S : XS} {I : XI} {J : XJ} {r : XR} {a p : Nat} (hp : S.length = p) (ha : S[a]? = some (1, 0)) (hla : a < p) (zh : ZH S I J r) (hQ : (ES4 S).length = p + 2 → ZH (ES4 S) I J (RS4 r a p) → Q none (ES4 S) I J (RS4 r a p)) : xcall (d + 2) 4 [.ref a] S I J r Q := by
  refine xc_b [.ref a] rfl rfl rfl ?_
  refine xr_b q4_0 rfl ?_
  refine i_6 rfl ?_
  refine i_49 rfl ?_
  refine i_6 rfl ?_
  refine a28 p hp zh rfl rfl ?_
  have hp1 := lA (E := [(5, 0)]) (n := 1) (q := p + 1) hp rfl rfl
  have zh_6 := zh.a [(5, 0)]
  refine i_19 rfl ?_
  refine i_55 (as := [.ref p]) [.ref p, .ref a] rfl rfl rfl rfl rfl (sN' (i := 0) hp rfl) (by decide) (by decide) ?_
  refine z5 (d := d) (a := p) hp1 (sN' (i := 0) hp rfl) (by omega) zh_6 (fun hp2 zq2 => ?_)
  refine xr_b q4_12 rfl ?_
  refine i_47 (ES5_s (sA ha)) ?_
  have zh_12 := zq2.r (a := a) (i := 0) (v := some p) (zlt hp2 (by omega))
  refine i_27_3 ?_
  exact hQ hp2 zh_12
abbrev ES6 (S : XS) : XS := ES5 (S ++ [(5, 0)]) ++ [(100, 3)]
abbrev RS6 (r : XR) (a p : Nat) : XR := up2 (up2 (RS5 r p (p + 1)) a 0 (some p)) a 1 (some (p + 2))
theorem ES6_s {S : XS} {q : Nat} {x : Nat × Nat} (h : S[q]? = some x) : (ES6 S)[q]? = some x := (sA (ES5_s (sA h)))
theorem z6 {d : Nat} {Q : XQ} {S : XS} {I : XI} {J : XJ} {r : XR} {a p : Nat} (hp : S.length = p) (ha : S[a]? = some (8, 0)) (hla : a < p) (zh : ZH S I J r) (hQ : (ES6 S).length = p + 3 → ZH (ES6 S) I J (RS6 r a p) → Q none (ES6 S) I J (RS6 r a p)) : xcall (d + 2) 6 [.ref a] S I J r Q := by
  refine xc_b [.ref a] rfl rfl rfl ?_
  refine xr_b q6_0 rfl ?_
  refine i_6 rfl ?_
  refine i_49 rfl ?_
  refine i_6 rfl ?_
  refine a28 p hp zh rfl rfl ?_
  have hp1 := lA (E := [(5, 0)]) (n := 1) (q := p + 1) hp rfl rfl
  have zh_6 := zh.a [(5, 0)]
  refine i_19 rfl ?_
  refine i_55 (as := [.ref p]) [.ref p, .ref a] rfl rfl rfl rfl rfl (sN' (i := 0) hp rfl) (by decide) (by decide) ?_
  refine z5 (d := d) (a := p) hp1 (sN' (i := 0) hp rfl) (by omega) zh_6 (fun hp2 zq2 => ?_)
  refine xr_b q6_12 rfl ?_
  refine i_47 (ES5_s (sA ha)) ?_
  have zh_12 := zq2.r (a := a) (i := 0) (v := some p) (zlt hp2 (by omega))
  refine i_6 rfl ?_
  refine i_0 ?_
  refine a29 (p + 2) 3 rfl hp2 zh_12 rfl rfl ?_
  have hp3 := lA (E := [(100, 3)]) (n := 1) (q := p + 3) hp2 rfl rfl
  have zh_17 := zh_12.a [(100, 3)]
  refine i_47 (sA (ES5_s (sA ha))) ?_
  have zh_19 := zh_17.r (a := a) (i := 1) (v := some (p + 2)) (zlt hp3 (by omega))
  refine i_27_3 ?_
  exact hQ hp3 zh_19
abbrev ES7 (S : XS) : XS := S ++ [(100, 30)] ++ [(100, 31)]
abbrev RS7 (r : XR) (a p : Nat) : XR := up2 (up2 r a 0 (some p)) a 2 (some (p + 1))
theorem ES7_s {S : XS} {q : Nat} {x : Nat × Nat} (h : S[q]? = some x) : (ES7 S)[q]? = some x := (sA (sA h))
theorem z7 {d : Nat} {Q : XQ} {S : XS} {I : XI} {J : XJ} {r : XR} {a p : Nat} (hp : S.length = p) (ha : S[a]? = some (4, 0)) (hla : a < p) (zh : ZH S I J r) (hQ : (ES7 S).length = p + 2 → ZH (ES7 S) I J (RS7 r a p) → Q none (ES7 S) I J (RS7 r a p)) : xcall (d + 1) 7 [.ref a] S I J r Q := by
  refine xc_b [.ref a] rfl rfl rfl ?_
  refine xr_b q7_0 rfl ?_
  refine i_6 rfl ?_
  refine i_49 rfl ?_
  refine i_6 rfl ?_
  refine i_0 ?_
  refine a29 p 30 rfl hp zh rfl rfl ?_
  have hp1 := lA (E := [(100, 30)]) (n := 1) (q := p + 1) hp rfl rfl
  have zh_7 := zh.a [(100, 30)]
  refine i_47 (sA ha) ?_
  have zh_9 := zh_7.r (a := a) (i := 0) (v := some p) (zlt hp1 (by omega))
  refine i_6 rfl ?_
  refine i_0 ?_
  refine a29 (p + 1) 31 rfl hp1 zh_9 rfl rfl ?_
  have hp2 := lA (E := [(100, 31)]) (n := 1) (q := p + 2) hp1 rfl rfl
  have zh_14 := zh_9.a [(100, 31)]
  refine i_47 (sA (sA ha)) ?_
  have zh_16 := zh_14.r (a := a) (i := 2) (v := some (p + 1)) (zlt hp2 (by omega))
  refine i_27_3 ?_
  exact hQ hp2 zh_16
abbrev ES8 (S : XS) : XS := ES7 (S ++ [(4, 0)]) ++ [(100, 60)]
abbrev RS8 (r : XR) (a p : Nat) : XR := up2 (up2 (RS7 r p (p + 1)) a 0 (some p)) a 1 (some (p + 3))
theorem ES8_s {S : XS} {q : Nat} {x : Nat × Nat} (h : S[q]? = some x) : (ES8 S)[q]? = some x := (sA (ES7_s (sA h)))
theorem z8 {d : Nat} {Q : XQ} {S : XS} {I : XI} {J : XJ} {r : XR} {a p : Nat} (hp : S.length = p) (ha : S[a]? = some (3, 0)) (hla : a < p) (zh : ZH S I J r) (hQ : (ES8 S).length = p + 4 → ZH (ES8 S) I J (RS8 r a p) → Q none (ES8 S) I J (RS8 r a p)) : xcall (d + 2) 8 [.ref a] S I J r Q := by
  refine xc_b [.ref a] rfl rfl rfl ?_
  refine xr_b q8_0 rfl ?_
  refine i_6 rfl ?_
  refine i_49 rfl ?_
  refine i_6 rfl ?_
  refine a28 p hp zh rfl rfl ?_
  have hp1 := lA (E := [(4, 0)]) (n := 1) (q := p + 1) hp rfl rfl
  have zh_6 := zh.a [(4, 0)]
  refine i_19 rfl ?_
  refine i_55 (as := [.ref p]) [.ref p, .ref a] rfl rfl rfl rfl rfl (sN' (i := 0) hp rfl) (by decide) (by decide) ?_
  refine z7 (d := d) (a := p) hp1 (sN' (i := 0) hp rfl) (by omega) zh_6 (fun hp2 zq2 => ?_)
  refine xr_b q8_12 rfl ?_
  refine i_47 (ES7_s (sA ha)) ?_
  have zh_12 := zq2.r (a := a) (i := 0) (v := some p) (zlt hp2 (by omega))
  refine i_6 rfl ?_
  refine i_0 ?_
  refine a29 (p + 3) 60 rfl hp2 zh_12 rfl rfl ?_
  have hp3 := lA (E := [(100, 60)]) (n := 1) (q := p + 4) hp2 rfl rfl
  have zh_17 := zh_12.a [(100, 60)]
  refine i_47 (sA (ES7_s (sA ha))) ?_
  have zh_19 := zh_17.r (a := a) (i := 1) (v := some (p + 3)) (zlt hp3 (by omega))
  refine i_27_3 ?_
  exact hQ hp3 zh_19
