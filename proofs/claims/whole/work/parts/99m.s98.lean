/-! the law -/
theorem S76_eq : S76 = S0 := rfl
theorem r76_all : r0l.all (fun x => decide (R76 (R65 (fun _ _ => none)) x.1 x.2.1 = some x.2.2)) = true := by decide +kernel
theorem lay76 : LAY S76 (R76 (R65 (fun _ _ => none))) := ⟨fun q x e => by rw [S76_eq]; exact e, fun i x e => of_decide_eq_true (List.all_eq_true.mp r76_all x (List.mem_of_getElem? e))⟩
theorem r76_n : ∀ j, 0 ≤ j → j < 3 → R76 (R65 (fun _ _ => none)) 64 j = none := fun j _ hj => by
  have : j = 0 ∨ j = 1 ∨ j = 2 := by omega
  rcases this with rfl | rfl | rfl <;> decide +kernel
theorem inv0 {I1 I2 I3 : XI} (f1 : ∀ x, x ≠ 28 → x ≠ 31 → x ≠ 39 → I1 x = IS3 (fun _ _ => 0) 4 x) (c1 : CR I1 (JS2 (fun _ _ => 0) 1) 28 B0 (fun _ => 0) ∧ I1 39 0 = 0 ∧ I1 39 1 = 0 ∧ I1 39 2 = 0) (f2 : ∀ x, x ≠ 46 → x ≠ 49 → x ≠ 57 → I2 x = I1 x) (f3 : ∀ x k, ¬ (x = 67 ∧ k < 4) → ¬ (x = 70 ∧ k < 345) → I3 x k = up2 (up2 (up2 (up2 I2 0 14 (-1)) 0 15 (-1)) 65 10 (-1)) 65 11 (-1) x k) (e67 : ∀ k, k < 4 → I3 67 k = -1) (e70 : ∀ k, k < 345 → I3 70 k = B0 k)
    (zh : ZH S76 (up2 (up2 (up2 (up2 I2 0 14 (-1)) 0 15 (-1)) 65 10 (-1)) 65 11 (-1)) (up2 (JS2 (fun _ _ => 0) 1) 65 3 (lN 1)) (R76 (R65 (fun _ _ => none)))) : INV S76 I3 (up2 (JS2 (fun _ _ => 0) 1) 65 3 (lN 1)) (R76 (R65 (fun _ _ => none))) 0 (fun _ => 0) 0 0 := by
  have g : ∀ x k, x ≠ 67 → x ≠ 70 → x ≠ 46 → x ≠ 49 → x ≠ 57 → ¬ (x = 0 ∧ (k = 14 ∨ k = 15)) → ¬ (x = 65 ∧ (k = 10 ∨ k = 11)) → I3 x k = I1 x k := fun x k a b c d e f h => by
    rw [f3 x k (by omega) (by omega)]
    by_cases x65 : x = 65
    · subst x65
      rw [up_i (by omega), up_i (by omega), up_o (by decide), up_o (by decide), f2 65 (by decide) (by decide) (by decide)]
    · rw [up_o x65, up_o x65]
      by_cases x0 : x = 0
      · subst x0
        rw [up_i (by omega), up_i (by omega), f2 0 (by decide) (by decide) (by decide)]
      · rw [up_o x0, up_o x0, f2 x c d e]
  have g0 : ∀ x k, x ≠ 67 → x ≠ 70 → x ≠ 46 → x ≠ 49 → x ≠ 57 → x ≠ 28 → x ≠ 31 → x ≠ 39 → x ≠ 10 → ¬ (x = 0 ∧ (k = 14 ∨ k = 15)) → ¬ (x = 65 ∧ (k = 10 ∨ k = 11)) → I3 x k = 0 := fun x k a b c d e f h i j l m => by
    rw [g x k a b c d e l m, f1 x f h i]
    show IS3 _ _ x k = 0
    unfold IS3
    rw [up_o (by omega), up_o (by omega), up_o (by omega), up_o (by omega)]
  have hj : ∀ x k, x ≠ 1 → x ≠ 65 → up2 (JS2 (fun _ _ => 0) 1) 65 3 (lN 1) x k = 0 := fun x k a b => by
    unfold JS2
    rw [up_o b, up_o a, up_o a]
  refine ⟨⟨lay76, by decide, rfl, fun j hj => absurd hj (by omega), r76_n⟩, ⟨(c1.1.frJ (J' := up2 (JS2 (fun _ _ => 0) 1) 65 3 (lN 1)) (I' := I3) (fun q a b => funext fun k => g q k (by omega) (by omega) (by omega) (by omega) (by omega) (by omega) (by omega)) (up_o (by decide))).cg (fun i hi => e70 i (by omega)) (fun k hk => absurd hk (by show ¬ k < bn B0 3; rw [show bn B0 3 = 0 from rfl]; omega)), Or.inl ⟨?_, ?_⟩⟩, fun t ht => ⟨⟨0, by decide, ?_, ?_⟩, ?_, Or.inl (e67 t ht), fun i hi => ?_⟩, ⟨⟨?_, fun i hi => absurd hi (by omega)⟩, ⟨?_, fun i hi => absurd hi (by omega)⟩, by decide, fun i hi => absurd hi (by omega)⟩, ⟨?_, ?_, ?_, ?_, ?_⟩, ⟨?_, fun i hi => ?_⟩, ⟨?_, ?_, fun j hj => absurd hj (by omega)⟩, Nat.le_refl _, fun q hq k => ?_⟩
  · rw [g 39 0 (by decide) (by decide) (by decide) (by decide) (by decide) (by omega) (by omega)]; exact c1.2.1
  · rw [e70 73 (by decide)]; rfl
  · rw [g0 66 t (by decide) (by decide) (by decide) (by decide) (by decide) (by decide) (by decide) (by decide) (by decide) (by omega) (by omega)]; rfl
  · rw [g0 9 t (by decide) (by decide) (by decide) (by decide) (by decide) (by decide) (by decide) (by decide) (by decide) (by omega) (by omega)]; rfl
  · rw [g 10 t (by decide) (by decide) (by decide) (by decide) (by decide) (by omega) (by omega), e67 t ht, f1 10 (by decide) (by decide) (by decide)]
    have : t = 0 ∨ t = 1 ∨ t = 2 ∨ t = 3 := by omega
    rcases this with rfl | rfl | rfl | rfl <;> rfl
  · rw [hj (5 + t) i (by omega) (by omega), hj 68 _ (by decide) (by decide)]
  · rw [g0 0 12 (by decide) (by decide) (by decide) (by decide) (by decide) (by decide) (by decide) (by decide) (by decide) (by omega) (by omega)]; rfl
  · rw [g0 65 8 (by decide) (by decide) (by decide) (by decide) (by decide) (by decide) (by decide) (by decide) (by decide) (by omega) (by omega)]; rfl
  · rw [g0 0 13 (by decide) (by decide) (by decide) (by decide) (by decide) (by decide) (by decide) (by decide) (by decide) (by omega) (by omega), g0 65 0 (by decide) (by decide) (by decide) (by decide) (by decide) (by decide) (by decide) (by decide) (by decide) (by omega) (by omega)]
  · rw [f3 0 14 (by omega) (by omega), f3 65 10 (by omega) (by omega)]; rfl
  · rw [f3 0 15 (by omega) (by omega), f3 65 11 (by omega) (by omega)]; rfl
  · rfl
  · rfl
  · rw [g0 0 16 (by decide) (by decide) (by decide) (by decide) (by decide) (by decide) (by decide) (by decide) (by decide) (by omega) (by omega), g0 65 32 (by decide) (by decide) (by decide) (by decide) (by decide) (by decide) (by decide) (by decide) (by decide) (by omega) (by omega)]
  · rw [g0 27 i (by decide) (by decide) (by decide) (by decide) (by decide) (by decide) (by decide) (by decide) (by decide) (by omega) (by omega), g0 75 i (by decide) (by decide) (by decide) (by decide) (by decide) (by decide) (by decide) (by decide) (by decide) (by omega) (by omega)]
  · rw [g0 0 11 (by decide) (by decide) (by decide) (by decide) (by decide) (by decide) (by decide) (by decide) (by decide) (by omega) (by omega)]; rfl
  · rw [g0 65 23 (by decide) (by decide) (by decide) (by decide) (by decide) (by decide) (by decide) (by decide) (by decide) (by omega) (by omega)]; rfl
  · have h76 : S76.length = 76 := rfl
    have z := zh q hq k
    rw [f3 q k (by omega) (by omega)]
    exact z
theorem lx6 {L x : Nat} (hL : L ≤ 3072) (h : ¬ nI L - nI 6 < nI x) (hx : x ≤ 4000) : x + 6 ≤ L := by
  by_cases q : 6 ≤ L
  · rw [pk_sub q, nI_ltI (by omega) (by omega)] at h
    omega
  · exfalso
    apply h
    rw [i_lt, i_toI (by omega)]
    have : L = 0 ∨ L = 1 ∨ L = 2 ∨ L = 3 ∨ L = 4 ∨ L = 5 := by omega
    have e : (nI L - nI 6).toInt < 0 := by rcases this with rfl | rfl | rfl | rfl | rfl | rfl <;> decide
    omega
theorem m187 : mck 187 = 18 := by decide +kernel
theorem s187 : msk 187 = 471 := by decide +kernel
theorem m351 : mck 351 = 600000 := by decide +kernel
theorem s351 : msk 351 = 7302250 := by decide +kernel
theorem LOOP {sc : Nat × (Nat → Int32)} (hL : sc.1 ≤ 3072) : ∀ (j x cu su : Nat) (S : XS) (I : XI) (J : XJ) (r : XR) (n : Nat) (F : Nat → Int32) (m c : Nat), x ≤ sc.1 → sc.1 ≤ x + 6 * j + 5 → cu + 18 * j ≤ 600000 → su + 471 * j ≤ 7302250 → INV S I J r n F m c → xrun sc (xcall 100) (fun v _ _ _ _ => v = some (.int 1)) 351 18 [.retAddr 3000, .ref 0, .ref 65, .int (nI x)] [] S I J r cu su
  | 0, x, cu, su, S, I, J, r, n, F, m, c, h1, h2, h3, h4, h => K351_18 h.lay ⟨fun _ => rfl, fun g => absurd (lx6 hL g (by omega)) (by omega)⟩
  | j + 1, x, cu, su, S, I, J, r, n, F, m, c, h1, h2, h3, h4, h => by
    refine K351_18 h.lay ⟨fun _ => rfl, fun g => ?_⟩
    have hx := lx6 hL g (by omega)
    have v : ∀ i, i ≤ 5 → vp_in (nI x + nI i) sc.1 := fun i hi => by rw [nI_add]; exact vp_in_nI (by omega) (by omega)
    have KK : ∀ cu' su', cu' ≤ cu + 18 → su' ≤ su + 471 → KL sc (fun v _ _ _ _ => v = some (.int 1)) (nI x) cu' su' := fun cu' su' a b S I J r n F m c h => K351_1941 (by
      rw [nI_add]
      exact LOOP hL j (x + 6) cu' su' S I J r n F m c hx (by omega) (by omega) (by omega) h)
    have K := KK cu su (by omega) (by omega)
    refine ⟨vp_in_nI (by omega) (by omega), ?_⟩
    refine ⟨fun _ => LC13 h v K, fun _ => ?_⟩
    refine ⟨fun _ => LC14 h v K, fun _ => ?_⟩
    refine ⟨fun _ => LC15 h v K, fun _ => ?_⟩
    refine ⟨fun _ => ⟨v 1 (by decide), v 2 (by decide), v 3 (by decide), LC16 h v K⟩, fun _ => ?_⟩
    refine ⟨fun _ => ⟨v 1 (by decide), v 2 (by decide), v 3 (by decide), v 4 (by decide), LC20 h v K⟩, fun _ => ?_⟩
    refine ⟨fun _ => ⟨v 1 (by decide), v 2 (by decide), LC25 h v K⟩, fun _ => ?_⟩
    refine ⟨fun _ => ⟨v 1 (by decide), v 2 (by decide), v 3 (by decide), v 4 (by decide), v 5 (by decide), LC26 h v K⟩, fun _ => ?_⟩
    refine ⟨fun _ => ⟨v 1 (by decide), v 2 (by decide), v 3 (by decide), v 4 (by decide), v 5 (by decide), LC28 h v K⟩, fun _ => ?_⟩
    refine ⟨fun _ => ⟨v 1 (by decide), LC30 h v K⟩, fun _ => ?_⟩
    refine ⟨fun _ => ⟨v 1 (by decide), LC84 h v K⟩, fun _ => ?_⟩
    refine ⟨fun _ => ⟨v 1 (by decide), LC97 h v K⟩, fun _ => ?_⟩
    refine ⟨fun _ => ⟨v 1 (by decide), LC98 h v K⟩, fun _ => ?_⟩
    refine ⟨fun _ => ⟨v 1 (by decide), v 2 (by decide), LC100 h v K⟩, fun _ => ?_⟩
    refine ⟨fun _ => ⟨v 1 (by decide), LC102 h v K⟩, fun _ => ?_⟩
    refine ⟨fun _ => ⟨v 1 (by decide), v 2 (by decide), LC103 h v K⟩, fun _ => ?_⟩
    refine ⟨fun _ => ⟨v 1 (by decide), LC104 h v K⟩, fun _ => ?_⟩
    refine ⟨fun _ => ⟨v 1 (by decide), LC107 h v K⟩, fun _ => ?_⟩
    refine ⟨fun _ => ⟨v 1 (by decide), v 2 (by decide), LC108 h v K⟩, fun _ => ?_⟩
    refine ⟨fun _ => ⟨v 1 (by decide), LC110 h v K⟩, fun _ => ?_⟩
    refine ⟨fun _ => ⟨v 1 (by decide), v 2 (by decide), fun z => LC112 h v K (Or.inl ⟨z, rfl⟩), fun z => LC112 h v K (Or.inr ⟨z, rfl⟩)⟩, fun _ => ?_⟩
    refine ⟨fun _ => ⟨v 1 (by decide), v 2 (by decide), LC113 h v K⟩, fun _ => ?_⟩
    refine ⟨fun _ => ⟨v 1 (by decide), LC114 h v K⟩, fun _ => ?_⟩
    refine ⟨fun _ => ⟨v 1 (by decide), v 2 (by decide), LC116 h v K⟩, fun _ => ?_⟩
    refine ⟨fun _ => ⟨v 1 (by decide), v 2 (by decide), v 3 (by decide), v 4 (by decide), LC117 h v K⟩, fun _ => ?_⟩
    refine ⟨fun _ => ⟨v 1 (by decide), v 2 (by decide), v 3 (by decide), LC133 h v K⟩, fun _ => ?_⟩
    refine ⟨fun _ => ⟨v 1 (by decide), LC135 h v K⟩, fun _ => ?_⟩
    refine ⟨fun _ => ⟨v 1 (by decide), LC136 h v K⟩, fun _ => ?_⟩
    refine ⟨fun _ => ⟨v 1 (by decide), LC137 h v K⟩, fun _ => ?_⟩
    refine ⟨fun _ => ⟨v 1 (by decide), v 2 (by decide), v 3 (by decide), LC138 h v K⟩, fun _ => ?_⟩
    refine ⟨fun _ => ⟨v 1 (by decide), v 2 (by decide), v 3 (by decide), v 4 (by decide), LC139 h v K⟩, fun _ => ?_⟩
    refine ⟨fun _ => ⟨v 1 (by decide), v 2 (by decide), v 3 (by decide), v 4 (by decide), LC140 h v K⟩, fun _ => ?_⟩
    refine ⟨fun _ => ⟨v 1 (by decide), v 2 (by decide), v 3 (by decide), LC141 h v K⟩, fun _ => ?_⟩
    refine ⟨fun _ => ⟨v 1 (by decide), v 2 (by decide), v 3 (by decide), LC144 h v K⟩, fun _ => ?_⟩
    refine ⟨fun _ => ⟨v 1 (by decide), v 2 (by decide), v 3 (by decide), LC145 h v K⟩, fun _ => ?_⟩
    refine ⟨fun _ => ⟨v 1 (by decide), LC146 h v K⟩, fun _ => ?_⟩
    refine ⟨fun _ => ⟨v 1 (by decide), LC147 h v K⟩, fun _ => ?_⟩
    refine ⟨fun _ => ⟨v 1 (by decide), v 2 (by decide), LC148 h v K⟩, fun _ => ?_⟩
    refine ⟨fun _ => LC149 h v K, fun _ => ?_⟩
    refine ⟨fun _ => LC151 h v K, fun _ => ?_⟩
    refine ⟨fun _ => ⟨v 1 (by decide), v 2 (by decide), v 3 (by decide), v 4 (by decide), LC152 h v K⟩, fun _ => ?_⟩
    refine ⟨fun _ => ⟨v 1 (by decide), v 2 (by decide), v 3 (by decide), v 4 (by decide), v 5 (by decide), LC159 h v K⟩, fun _ => ?_⟩
    refine ⟨fun _ => ⟨v 1 (by decide), v 2 (by decide), LC160 h v K⟩, fun _ => ?_⟩
    refine ⟨fun _ => ⟨v 1 (by decide), LC161 h v K⟩, fun _ => ?_⟩
    refine ⟨fun _ => ⟨v 1 (by decide), LC165 h v K⟩, fun _ => ?_⟩
    refine ⟨fun _ => ⟨v 1 (by decide), v 2 (by decide), v 3 (by decide), LC166 h v K⟩, fun _ => ?_⟩
    refine ⟨fun _ => ⟨v 1 (by decide), v 2 (by decide), LC171 h v K⟩, fun _ => ?_⟩
    refine ⟨fun _ => ⟨v 1 (by decide), LC172 h v K⟩, fun _ => ?_⟩
    refine ⟨fun _ => ⟨v 1 (by decide), LC173 h v K⟩, fun _ => ?_⟩
    refine ⟨fun _ => ⟨v 1 (by decide), LC184 h v K⟩, fun _ => ?_⟩
    refine ⟨fun _ => ⟨v 1 (by decide), v 2 (by decide), LC185 h v K⟩, fun _ => ?_⟩
    refine ⟨fun _ => ⟨by have e1 := m187; have e2 := m351; omega, by have e1 := s187; have e2 := s351; omega, LC187 h (KK _ _ (by have e1 := m187; omega) (by have e1 := s187; omega))⟩, fun _ => ?_⟩
    refine ⟨fun _ => LC188 h v K, fun _ => ?_⟩
    exact K S I J r n F m c h
theorem zh0 : ZH [] (fun _ _ => 0) (fun _ _ => 0) (fun _ _ => none) := fun _ _ _ => ⟨rfl, rfl, rfl⟩
theorem LAW_all (L : Nat) (xs : Nat → Int32) (hL : L ≤ 3072) : xrun (L, xs) (xcall 100) (fun v _ _ _ _ => v = some (.int 1)) 351 0 [.retAddr 3000, .float 0, .float 0, .float 0] [] [] (fun _ _ => 0) (fun _ _ => 0) (fun _ _ => none) 0 0 := by
  refine xr_b q351_0 rfl ?_
  refine a28 0 rfl zh0 rfl rfl ?_
  refine i_19 rfl ?_
  refine i_55 (as := [.ref 0]) [.ref 0] rfl rfl rfl rfl rfl (sN' (i := 0) (p := 0) rfl rfl) (by decide) (by decide) ?_
  refine z0c (d := 96) (zh0.a [(9, 0)]) (fun I1 I2 f1 c1 f2 hp zh => ?_)
  have hp1 := lA (E := [(10, 0)]) (n := 1) (q := 66) hp rfl rfl
  refine xr_b q351_7 rfl ?_
  refine i_9 [.retAddr 3000, .ref 0, .float 0, .float 0] rfl ?_
  refine a28 65 hp zh rfl rfl ?_
  refine i_19 rfl ?_
  refine i_55 (as := [.ref 65]) [.ref 65] rfl rfl rfl rfl rfl (sN' (i := 0) hp rfl) (by decide) (by decide) ?_
  refine z189c (d := 98) (zh.a [(10, 0)]) hp1 (sN' (i := 0) hp rfl) lay76 (fun I3 f3 e67 e70 hl zq => ?_)
  refine xr_b q351_15 rfl (i_9 [.retAddr 3000, .ref 0, .ref 65, .float 0] rfl (i_0 (i_7 [.retAddr 3000, .ref 0, .ref 65, .int (nI 0)] rfl (i_24 ?_))))
  exact LOOP (sc := (L, xs)) hL 512 0 _ _ _ _ _ _ _ _ _ _ (Nat.zero_le _) (by show L ≤ _; omega) (by decide) (by decide) (inv0 f1 c1 f2 f3 e67 e70 zq)
