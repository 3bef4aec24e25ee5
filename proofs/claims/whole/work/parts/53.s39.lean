/-! the reference's reader, on -/
def wJ (F : Nat → Int32) (s m : Nat) : Int64 := if 8 < m then -1 else lN (wcd F s m)
theorem k207w {d : Nat} {Q : XQ} {S : XS} {r : XR} {n s : Nat} {F : Nat → Int32} (hL : LAY S r) (hn : n ≤ 900) : ∀ (j m : Nat) (I : XI) (J : XJ) (cu su : Nat) (w1 : Value), s + m + j = n → (∀ i, i < m → isL F (s + i) = true) → TT I n F → I 65 15 = nI s → I 65 16 = nI (s + m) → J 65 19 = wJ F s m →
    (∀ I' J', mk I I' → jk 65 19 J J' → I' 65 15 = nI s → I' 65 14 = I 65 14 → I' 65 16 = nI (run (isL F) j (s + m)) → I' 65 18 = nI (run (isL F) j (s + m) - s) → J' 65 19 = wJ F s (run (isL F) j (s + m) - s) → Q none S I' J' r) → xrun z0 (xcall (d + 1)) Q 207 109 [.ref 65, w1] [] S I J r cu su := by
  intro j
  have fin : ∀ (m : Nat) (I : XI) (J : XJ) (cu su : Nat) (w1 : Value), s + m ≤ n → TT I n F → ¬ (97 ≤ lk F n (s + m) ∧ lk F n (s + m) ≤ 122) → I 65 15 = nI s → I 65 16 = nI (s + m) → J 65 19 = wJ F s m → (∀ I' J', mk I I' → jk 65 19 J J' → I' 65 15 = nI s → I' 65 14 = I 65 14 → I' 65 16 = nI (s + m) → I' 65 18 = nI m → J' 65 19 = wJ F s m → Q none S I' J' r) → xrun z0 (xcall (d + 1)) Q 207 109 [.ref 65, w1] [] S I J r cu su := fun m I J cu su w1 hj t hb h15 h16 h19 hQ => by
    refine K207_109 hL ?_
    rw [h16]
    refine r208 (p := s + m) hL t hn (by omega) (K207_117 (r209 (lk_lt t) (fun h => absurd h hb) (fun _ => K207_120 hL (yes rfl ?_))))
    rw [h16, h15, pk_sub (by omega), show s + m - s = m by omega]
    exact hQ _ _ ((mk.r I).u (by decide)) (jk.r _ _ _) (by rw [up_i (by decide)]; exact h15) (by rw [up_i (by decide)]) (by rw [up_i (by decide)]; exact h16) up_e h19
  induction j with
  | zero =>
    intro m I J cu su w1 hj hl t h15 h16 h19 hQ
    rw [run, show s + m - s = m by omega] at hQ
    exact fin m I J cu su w1 (by omega) t (fun h => by have := ((lk_L t).mp h).1; omega) h15 h16 h19 hQ
  | succ j ih =>
    intro m I J cu su w1 hj hl t h15 h16 h19 hQ
    rw [run] at hQ
    by_cases hb : isL F (s + m) = true
    · rw [if_pos hb] at hQ
      have lb := (lk_L t).mpr ⟨by omega, hb⟩
      have lv1 := lv_L hb
      have l2 := lk_lv t (p := s + m) (by omega) (by have := isL_t.mp hb; omega)
      refine K207_109 hL ?_
      rw [h16]
      refine r208 (p := s + m) hL t hn (by omega) (K207_117 (r209 (lk_lt t) (fun _ => K207_120 hL (no (by decide) ?_)) (fun h => absurd lb h)))
      rw [h16, h15, pk_sub (by omega), show s + m - s = m by omega]
      have all : ∀ i, i < m + 1 → isL F (s + i) = true := fun i hi => by
        rcases Nat.lt_or_ge i m with q | q
        · exact hl i q
        · have : i = m := by omega
          subst this; exact hb
      have go : ∀ J1, jk 65 19 J J1 → J1 65 19 = wJ F s (m + 1) → ∀ cu su w1, xrun z0 (xcall (d + 1)) Q 207 109 [.ref 65, w1] [] S (up2 I 65 16 (nI (s + m) + nI 1)) J1 r cu su := fun J1 hj1 hj2 cu su w1 => by
        rw [nI_add]
        exact ih (m + 1) _ _ _ _ _ (by omega) all (t.k ((mk.r I).u (by decide))) (by rw [up_i (by decide)]; exact h15) up_e hj2 (fun I' J' f1 f2 f3 f4 f5 f6 f7 => hQ I' J' (((mk.r I).u (by decide)).t f1) (hj1.t f2) f3 (by rw [f4, up_i (by decide)]) f5 f6 f7)
      by_cases q : 8 ≤ m
      · refine yes (by rw [nI_leI (by omega) (by omega)]; exact q) (go _ (jk.r _ _ _).u ?_ _ _ _)
        rw [up_e]; unfold wJ; rw [if_pos (by omega)]
      · refine no (by rw [nI_leI (by omega) (by omega)]; exact q) (r208 (p := s + m) hL t hn (by omega) (K207_154 hL ?_))
        rw [h16]
        refine go _ (jk.r _ _ _).u ?_ _ _ _
        have hc := (wcd_lt (F := F) (s := s) m hl).1
        have : 32 ^ m ≤ 32 ^ 7 := Nat.pow_le_pow_right (by decide) (by omega)
        have e7 : 32 ^ 7 = 34359738368 := rfl
        rw [up_e, h19]
        unfold wJ
        rw [if_neg (by omega), if_neg (by omega), lN_mul, nI_l (by omega), lN_add, lN_sub (by omega), wcd, l2]
        congr 1
        omega
    · rw [if_neg hb, show s + m - s = m by omega] at hQ
      exact fin m I J cu su w1 (by omega) t (fun h => hb ((lk_L t).mp h).2) h15 h16 h19 hQ
theorem k207n {d : Nat} {Q : XQ} {S : XS} {J : XJ} {r : XR} {n s : Nat} {F : Nat → Int32} (hL : LAY S r) (hn : n ≤ 900) : ∀ (j m : Nat) (I : XI) (cu su : Nat) (w1 : Value), s + m + j = n → (∀ i, i < m → isD F (s + i) = true) → TT I n F → I 65 15 = nI s → I 65 16 = nI (s + m) → I 65 17 = nI (ncd F s (min m 4)) →
    (∀ I', mk I I' → I' 65 15 = nI s → I' 65 16 = nI (run (isD F) j (s + m)) → I' 65 14 = nI (if 4 < run (isD F) j (s + m) - s then 4 else 2) → (run (isD F) j (s + m) - s ≤ 4 → I' 65 17 = nI (ncd F s (run (isD F) j (s + m) - s))) → Q none S I' J r) → xrun z0 (xcall (d + 1)) Q 207 210 [.ref 65, w1] [] S I J r cu su := by
  intro j
  have fin : ∀ (m : Nat) (I : XI) (cu su : Nat) (w1 : Value), s + m ≤ n → TT I n F → ¬ (48 ≤ lk F n (s + m) ∧ lk F n (s + m) ≤ 57) → I 65 15 = nI s → I 65 16 = nI (s + m) → I 65 17 = nI (ncd F s (min m 4)) → (∀ I', mk I I' → I' 65 15 = nI s → I' 65 16 = nI (s + m) → I' 65 14 = nI (if 4 < m then 4 else 2) → (m ≤ 4 → I' 65 17 = nI (ncd F s m)) → Q none S I' J r) → xrun z0 (xcall (d + 1)) Q 207 210 [.ref 65, w1] [] S I J r cu su := fun m I cu su w1 hj t hb h15 h16 h17 hQ => by
    refine K207_210 hL ?_
    rw [h16]
    refine r208 (p := s + m) hL t hn (by omega) (K207_218 (r210 (lk_lt t) (fun h => absurd h hb) (fun _ => K207_221 hL (yes rfl ?_))))
    rw [h16, h15, pk_sub (by omega), show s + m - s = m by omega]
    by_cases q : m ≤ 4
    · exact yes (by rw [nI_leI (by omega) (by omega)]; exact q) (hQ _ ((mk.r I).u (by decide)) (by rw [up_i (by decide)]; exact h15) (by rw [up_i (by decide)]; exact h16) (by rw [up_e, if_neg (by omega)]) (fun _ => by rw [up_i (by decide), h17, Nat.min_eq_left q]))
    · exact no (by rw [nI_leI (by omega) (by omega)]; exact q) (hQ _ ((mk.r I).u (by decide)) (by rw [up_i (by decide)]; exact h15) (by rw [up_i (by decide)]; exact h16) (by rw [up_e, if_pos (by omega)]) (fun h => absurd h q))
  induction j with
  | zero =>
    intro m I cu su w1 hj hl t h15 h16 h17 hQ
    rw [run, show s + m - s = m by omega] at hQ
    exact fin m I cu su w1 (by omega) t (fun h => by have := ((lk_D t).mp h).1; omega) h15 h16 h17 hQ
  | succ j ih =>
    intro m I cu su w1 hj hl t h15 h16 h17 hQ
    rw [run] at hQ
    by_cases hb : isD F (s + m) = true
    · rw [if_pos hb] at hQ
      have lb := (lk_D t).mpr ⟨by omega, hb⟩
      have lv1 := lv_D hb
      have l2 := lk_lv t (p := s + m) (by omega) (by have := isD_t.mp hb; omega)
      refine K207_210 hL ?_
      rw [h16]
      refine r208 (p := s + m) hL t hn (by omega) (K207_218 (r210 (lk_lt t) (fun _ => K207_221 hL (no (by decide) ?_)) (fun h => absurd lb h)))
      rw [h16, h15, pk_sub (by omega), show s + m - s = m by omega]
      have all : ∀ i, i < m + 1 → isD F (s + i) = true := fun i hi => by
        rcases Nat.lt_or_ge i m with q | q
        · exact hl i q
        · have : i = m := by omega
          subst this; exact hb
      by_cases q : 4 ≤ m
      · refine yes (by rw [nI_leI (by omega) (by omega)]; exact q) ?_
        rw [nI_add]
        exact ih (m + 1) _ _ _ _ (by omega) all (t.k ((mk.r I).u (by decide))) (by rw [up_i (by decide)]; exact h15) up_e (by rw [up_i (by decide), h17, Nat.min_eq_right q, Nat.min_eq_right (by omega)]) (fun I' f1 f2 f3 f4 f5 => hQ I' (((mk.r I).u (by decide)).t f1) f2 f3 f4 f5)
      · refine no (by rw [nI_leI (by omega) (by omega)]; exact q) (r208 (p := s + m) hL t hn (by omega) (K207_253 hL ?_))
        rw [up_i (by decide), h16, h17, Nat.min_eq_left (by omega), pk_mul, nI_add, l2, pk_sub (by omega), nI_add]
        have f0 : mk I (up2 (up2 I 65 17 (nI (10 * ncd F s m + lv F (s + m) - 48))) 65 16 (nI (s + m + 1))) := ((mk.r I).u (by decide)).u (by decide)
        exact ih (m + 1) _ _ _ _ (by omega) all (t.k f0) (by rw [up_i (by decide), up_i (by decide)]; exact h15) up_e (by rw [up_i (by decide), up_e, Nat.min_eq_left (by omega), ncd]; congr 1; omega) (fun I' f1 f2 f3 f4 f5 => hQ I' (f0.t f1) f2 f3 f4 f5)
    · rw [if_neg hb, show s + m - s = m by omega] at hQ
      exact fin m I cu su w1 (by omega) t (fun h => hb ((lk_D t).mp h).2) h15 h16 h17 hQ
/-- the reference's reader stands at the token that begins at s -/
def RM (I : XI) (J : XJ) (n : Nat) (F : Nat → Int32) (s : Nat) : Prop := TT I n F ∧ I 65 15 = nI s ∧ I 65 16 = nI (ex F n s) ∧ I 65 14 = nI (kd F n s) ∧ (kd F n s = 1 → J 65 19 = wJ F s (ex F n s - s) ∧ I 65 18 = nI (ex F n s - s)) ∧ (kd F n s = 2 → I 65 17 = nI (nm F n s)) ∧ (kd F n s = 3 → I 65 17 = F s)
theorem k207 {d : Nat} {Q : XQ} {S : XS} {J : XJ} {r : XR} {n : Nat} {F : Nat → Int32} (hL : LAY S r) (hn : n ≤ 900) : ∀ (j p cu su : Nat) (I : XI) (w1 : Value), p + j = n → TT I n F → I 65 15 = nI p →
    (∀ I' J', mk I I' → jk 65 19 J J' → RM I' J' n F (run (isB F) j p) → Q none S I' J' r) → xrun z0 (xcall (d + 1)) Q 207 8 [.ref 65, w1] [] S I J r cu su := by
  intro j
  induction j with
  | zero =>
    intro p cu su I w1 hj t h15 hQ
    rw [run] at hQ
    have ekd : kd F n p = 0 := kd_0.mpr (by omega)
    have f1 : mk I (up2 I 65 16 (nI p)) := (mk.r I).u (by decide)
    refine K207_8 hL (yes (by rw [t.1, h15, nI_leI (by omega) (by omega)]; omega) ?_)
    rw [up_i (by decide), up_i (by decide), h15, t.1]
    refine no (by rw [nI_ltI (by omega) (by omega)]; omega) (hQ _ _ (f1.u (by decide)) (jk.r _ _ _) ⟨t.k (f1.u (by decide)), ?_, ?_, ?_, ?_, ?_, ?_⟩)
    · rw [up_i (by decide), up_i (by decide)]; exact h15
    · rw [up_i (by decide), up_e]; unfold ex; rw [if_pos (by omega)]
    · rw [up_e, ekd]
    · rw [ekd]; intro h; cases h
    · rw [ekd]; intro h; cases h
    · rw [ekd]; intro h; cases h
  | succ j ih =>
    intro p cu su I w1 hj t h15 hQ
    have bl : isB F p = true → ∀ cu su w1, xrun z0 (xcall (d + 1)) Q 207 8 [.ref 65, w1] [] S (up2 I 65 15 (nI (p + 1))) J r cu su := fun hb cu su w1 => by
      rw [run, if_pos hb] at hQ
      exact ih (p + 1) _ _ _ _ (by omega) (t.k ((mk.r I).u (by decide))) up_e (fun I' J' f1 f2 f3 => hQ I' J' (((mk.r I).u (by decide)).t f1) f2 f3)
    refine K207_8 hL (no (by rw [t.1, h15, nI_leI (by omega) (by omega)]; omega) ?_)
    rw [h15]
    refine r208 (p := p) hL t hn (by omega) (K207_27 hL ?_)
    rw [h15, nI_eqI (by have := lk_lt (p := p) t; omega) (by omega), nI_add]
    by_cases e1 : lk F n p = 10
    · exact yes e1 (bl ((lk_B t (by omega)).mp (Or.inr e1)) _ _ _)
    · refine no e1 (r208 (p := p) hL t hn (by omega) (K207_40 hL ?_))
      rw [h15, nI_eqI (by have := lk_lt (p := p) t; omega) (by omega), nI_add]
      by_cases e2 : lk F n p = 32
      · exact nno e2 (bl ((lk_B t (by omega)).mp (Or.inl e2)) _ _ _)
      · refine yes e2 ?_
        have hb : ¬ isB F p = true := fun h => by
          have := (lk_B t (p := p) (by omega)).mpr h
          omega
        rw [run, if_neg hb] at hQ
        have hq : ¬ n ≤ p := by omega
        have f0 : mk I (up2 I 65 16 (nI p)) := (mk.r I).u (by decide)
        have t0 : TT (up2 I 65 16 (nI p)) n F := t.k f0
        have g15 : up2 I 65 16 (nI p) 65 15 = nI p := by rw [up_i (by decide)]; exact h15
        rw [g15, t0.1]
        refine yes (by rw [nI_ltI (by omega) (by omega)]; omega) (r208 (p := p) hL t0 hn (by omega) (K207_91 (r209 (lk_lt t) (fun hl => K207_96 hL (no (by decide) ?_)) (fun hl => K207_96 hL (yes rfl (r210 (lk_lt t) (fun hd => K207_202 hL (no (by decide) ?_)) (fun hd => K207_202 hL (yes rfl ?_))))))))
        · have hl : isL F p = true := ((lk_L t).mp hl).2
          have eex : ex F n p = run (isL F) (n - p) p := by unfold ex; rw [if_neg hq, if_pos hl]
          have ekd : kd F n p = 1 := by unfold kd; rw [if_neg hq, if_pos hl]
          have f2 : mk I (up2 (up2 I 65 16 (nI p)) 65 14 (nI 1)) := f0.u (by decide)
          refine k207w (F := F) (s := p) hL hn (n - p) 0 _ _ _ _ _ (by omega) (fun i hi => absurd hi (by omega)) (t.k f2) (by rw [up_i (by decide)]; exact g15) (by rw [up_i (by decide), up_e]; rfl) (by rw [up_e]; rfl) (fun I' J' g1 g2 g3 g4 g5 g6 g7 => hQ _ _ (f2.t g1) ((jk.r _ _ _).u.t g2) ⟨(t.k f2).k g1, g3, g5.trans (by rw [eex]; rfl), ?_, ?_, ?_, ?_⟩)
          · rw [g4, up_e, ekd]
          · intro _; rw [g7, g6, eex]; exact ⟨rfl, rfl⟩
          · rw [ekd]; intro h; cases h
          · rw [ekd]; intro h; cases h
        · have hl : ¬ isL F p = true := fun h => hl ((lk_L t).mpr ⟨by omega, h⟩)
          have hd : isD F p = true := ((lk_D t).mp hd).2
          have eex : ex F n p = run (isD F) (n - p) p := by unfold ex; rw [if_neg hq, if_neg hl, if_pos hd]
          have f2 : mk I (up2 (up2 I 65 16 (nI p)) 65 17 (nI 0)) := f0.u (by decide)
          refine k207n (F := F) (s := p) hL hn (n - p) 0 _ _ _ _ (by omega) (fun i hi => absurd hi (by omega)) (t.k f2) (by rw [up_i (by decide)]; exact g15) (by rw [up_i (by decide), up_e]; rfl) (by rw [up_e]; rfl) (fun I' g1 g2 g3 g4 g5 => hQ _ _ (f2.t g1) (jk.r _ _ _) ⟨(t.k f2).k g1, g2, g3.trans (by rw [eex]; rfl), ?_, ?_, ?_, ?_⟩)
          · rw [g4]; unfold kd; rw [if_neg hq, if_neg hl, if_pos hd, eex]; rfl
          · intro h; exact absurd (kd_1 h).2.1 hl
          · intro h
            have := kd_2 h
            unfold nm
            rw [eex] at this ⊢
            exact g5 this.2.2
          · intro h; unfold kd at h; rw [if_neg hq, if_neg hl, if_pos hd] at h; split at h <;> cases h
        · have hl : ¬ isL F p = true := fun h => hl ((lk_L t).mpr ⟨by omega, h⟩)
          have hd : ¬ isD F p = true := fun h => hd ((lk_D t).mpr ⟨by omega, h⟩)
          rw [g15, nI_add]
          have f2 : mk I (up2 (up2 (up2 I 65 16 (nI p)) 65 16 (nI (p + 1))) 65 17 (nI (lk F n p))) := (f0.u (by decide)).u (by decide)
          have fin : ∀ k, k = kd F n p → Q none S (up2 (up2 (up2 (up2 I 65 16 (nI p)) 65 16 (nI (p + 1))) 65 17 (nI (lk F n p))) 65 14 (nI k)) J r := fun k hk => by
            refine hQ _ _ (f2.u (by decide)) (jk.r _ _ _) ⟨t.k (f2.u (by decide)), ?_, ?_, ?_, ?_, ?_, ?_⟩
            · rw [up_i (by decide), up_i (by decide), up_i (by decide)]; exact g15
            · rw [up_i (by decide), up_i (by decide), up_e]; unfold ex; rw [if_neg hq, if_neg hl, if_neg hd]
            · rw [up_e, hk]
            · intro h; exact absurd (kd_1 h).2.1 hl
            · intro h; unfold kd at h; rw [if_neg hq, if_neg hl, if_neg hd] at h; split at h <;> cases h
            · intro h
              have hs : isS F p = true := by
                unfold kd at h; rw [if_neg hq, if_neg hl, if_neg hd] at h
                split at h
                · rename_i q; exact q
                · cases h
              have := isS_t.mp hs
              rw [up_i (by decide), up_e, lk_lv t (by omega) (by omega)]
              exact (lv_t (F := F) (p := p) (by omega)).2.symm
          refine r211 (lk_lt t) (fun hs => K207_319 hL (no (by decide) (fin 3 ?_))) (fun hs => K207_319 hL (yes rfl (fin 4 ?_)))
          · unfold kd; rw [if_neg hq, if_neg hl, if_neg hd, if_pos ((lk_S t (by omega)).mp hs)]
          · unfold kd; rw [if_neg hq, if_neg hl, if_neg hd, if_neg (fun h => hs ((lk_S t (by omega)).mpr h))]
theorem r207p {d : Nat} {Q : XQ} {S : XS} {I : XI} {J : XJ} {r : XR} {n p : Nat} {F : Nat → Int32} (hL : LAY S r) (hn : n ≤ 900) (hp : p ≤ n) (t : TT I n F) (h16 : I 65 16 = nI p)
    (hQ : ∀ I' J', mk I I' → jk 65 19 J J' → RM I' J' n F (skp F n p) → Q none S I' J' r) : xcall (d + 2) 207 [.ref 65] S I J r Q := by
  refine E207 hL ?_
  rw [h16]
  exact k207 hL hn (n - p) p 0 0 _ _ (by omega) (t.k ((mk.r I).u (by decide))) up_e (fun I' J' f1 f2 f3 => hQ I' J' (((mk.r I).u (by decide)).t f1) f2 f3)
theorem r207 {d : Nat} {Q : XQ} {S : XS} {I : XI} {J : XJ} {r : XR} {n s : Nat} {F : Nat → Int32} (hL : LAY S r) (hn : n ≤ 900) (hs : s ≤ n) (h : RM I J n F s)
    (hQ : ∀ I' J', mk I I' → jk 65 19 J J' → RM I' J' n F (nxt F n s) → Q none S I' J' r) : xcall (d + 2) 207 [.ref 65] S I J r Q :=
  r207p hL hn (ex_le hs).2.1 h.1 h.2.2.1 hQ
