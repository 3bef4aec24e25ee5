/-! how the lines are built: segments -/
def smp (Y : YY) (e : Nat) : Prop := ∃ k, Y e 0 = nI k ∧ 1 ≤ k ∧ k ≤ 9
def bkk (Y : YY) (q e : Nat) : Prop := q < e ∧ (∃ k, Y q 0 = nI k ∧ 10 ≤ k ∧ k ≤ 14 ∧ k ≠ 11) ∧ Y q 5 = nI e ∧ Y e 0 = nI 15 ∧ Y e 5 = nI q
/-- the lines from i up to e are whole steps, blocks within at most f others: the least such -/
def SG (Y : YY) (f i e : Nat) : Prop := ∀ P : Nat → Nat → Nat → Prop, (∀ f i, P f i i) → (∀ f i e, P f i e → smp Y e → P f i (e + 1)) → (∀ f i q e, P (f + 1) i q → bkk Y q e → P f (q + 1) e → P (f + 1) i (e + 1)) → P f i e
theorem SG.nil {Y : YY} {f i : Nat} : SG Y f i i := fun _ h0 _ _ => h0 f i
theorem SG.one {Y : YY} {f i e : Nat} (h : SG Y f i e) (s : smp Y e) : SG Y f i (e + 1) := fun P h0 h1 h2 => h1 f i e (h P h0 h1 h2) s
theorem SG.blk {Y : YY} {f i q e : Nat} (h : SG Y (f + 1) i q) (b : bkk Y q e) (g : SG Y f (q + 1) e) : SG Y (f + 1) i (e + 1) := fun P h0 h1 h2 => h2 f i q e (h P h0 h1 h2) b (g P h0 h1 h2)
theorem SG.le {Y : YY} {f i e : Nat} (h : SG Y f i e) : i ≤ e := h (fun _ i e => i ≤ e) (fun _ _ => Nat.le_refl _) (fun _ _ _ h _ => by omega) (fun _ _ q e h b g => by omega)
theorem SG.cg {Y Y' : YY} {f i e : Nat} (h : SG Y f i e) (k : ∀ x, i ≤ x → x < e → Y' x = Y x) : SG Y' f i e := by
  have := h (fun f i e => i ≤ e ∧ ((∀ x, i ≤ x → x < e → Y' x = Y x) → SG Y' f i e)) (fun f i => ⟨Nat.le_refl _, fun _ => SG.nil⟩) (fun f i e h s => ⟨by omega, fun k => ?_⟩) (fun f i q e h b g => ⟨by have := b.1; omega, fun k => ?_⟩)
  · exact this.2 k
  · refine (h.2 (fun x h1 h2 => k x h1 (by omega))).one ?_
    unfold smp
    rw [k e h.1 (by omega)]
    exact s
  · have b1 := b.1
    refine (h.2 (fun x h1 h2 => k x h1 (by omega))).blk ?_ (g.2 (fun x h1 h2 => k x (by omega) (by omega)))
    unfold bkk at b ⊢
    rw [k q h.1 (by omega), k e (by omega) (by omega)]
    exact b
def VA (N c L : Nat) (Y : YY) : Prop := ∀ i, i < L → ∃ k, Y i 0 = nI k ∧ 1 ≤ k ∧ k ≤ 15 ∧ k ≠ 11 ∧ VL N c k (Y i)
theorem VL.c {N c k : Nat} {y y' : Nat → Int32} (h : VL N c k y) (e : ∀ g, g < 5 → y' g = y g) : VL N c k y' := by
  unfold VL at *
  rw [e 1 (by decide), e 2 (by decide), e 3 (by decide), e 4 (by decide)]
  exact h
theorem VL.n {N N' c k : Nat} {y : Nat → Int32} (h : VL N c k y) (hn : N ≤ N') : VL N' c k y := ⟨fun q => by
  obtain ⟨a, h1, h2⟩ := h.1 q
  exact ⟨a, by omega, h2⟩, h.2⟩
def bsg (P : Nat → Nat) (i : Nat) : Nat := if i = 0 then 0 else P (i - 1) + 1
def tp (P : Nat → Nat) (L q i : Nat) : Nat := if i = q then L else P i
def PS (L : Nat) (Y : YY) (q : Nat) (P : Nat → Nat) : Prop := ∀ i, i ≤ q → SG Y (3 - i) (bsg P i) (tp P L q i)
/-- years that are well-formed: N cousins, c cells -/
def PG (N c L T : Nat) (Y : YY) : Prop := SG Y 3 0 L ∧ L ≤ 60 ∧ T ≤ 30 ∧ stc Y L = T ∧ VA N c L Y
theorem bsg_pN {k q L i : Nat} {P : Nat → Nat} (h : i ≤ q) : bsg (pN k q L P) i = bsg P i := by
  unfold bsg
  by_cases e : i = 0
  · rw [if_pos e, if_pos e]
  · rw [if_neg e, if_neg e, pN_o (by omega)]
theorem yMain_pg {F : Nat → Int32} {n N c : Nat} {W : Nat → Int64} (hc : 1 ≤ c) {L' T' : Nat} {Y' : YY} : ∀ (j s L T q : Nat) (Y : YY) (P : Nat → Nat), IV L T Y q P → PS L Y q P → VA N c L Y → (∀ i, i < q → Y (P i) 0 ≠ nI 11) → yMain F n N c W j s L T Y q P = .ok (L', T', Y') → PG N c L' T' Y' := by
  have done : ∀ (L T q : Nat) (Y : YY) (P : Nat → Nat) (e : Nat × Nat), IV L T Y q P → PS L Y q P → VA N c L Y → (if q = 0 then Except.ok (L, T, Y) else .error e : YR) = .ok (L', T', Y') → PG N c L' T' Y' := fun L T q Y P e iv ps va h => by
    by_cases q0 : q = 0
    · rw [if_pos q0] at h
      cases h
      subst q0
      obtain ⟨⟨b1, b2, b3, b4⟩, bt, b5⟩ := iv
      exact ⟨ps 0 (Nat.le_refl _), by omega, b2, bt, va⟩
    · rw [if_neg q0] at h; cases h
  intro j
  induction j with
  | zero =>
    intro s L T q Y P iv ps va _ h
    rw [yMain] at h
    exact done L T q Y P _ iv ps va h
  | succ j ih =>
    intro s L T q Y P iv ps va v11 h
    rw [yMain] at h
    obtain ⟨⟨b1, b2, b3, b4⟩, bt, b5⟩ := iv
    split at h
    · exact done L T q Y P _ ⟨⟨b1, b2, b3, b4⟩, bt, b5⟩ ps va h
    split at h
    · split at h
      · cases h
      rename_i q0
      split at h
      · -- an end
        have hp := b4 (q - 1) (by omega)
        obtain ⟨k, k1, k2, k3⟩ := b5 (q - 1) (by omega)
        have v1 := v11 (q - 1) (by omega)
        generalize hpp : P (q - 1) = p at *
        have cg : ∀ x, x < L → x ≠ p → yEnd Y L p x = Y x := fun x h1 h2 => funext fun g => yEnd_o (by omega) (Or.inr h2)
        have eL : ∀ g, yEnd Y L p L g = if g = 5 then nI p else yNew 15 g := fun g => by
          unfold yEnd yJoin
          by_cases e : g = 5
          · subst e; rw [up_e, if_pos rfl]
          · rw [up_i e, if_neg e, up_o (by omega), yPut_e]
        have e0 : yEnd Y L p L 0 = nI 15 := eL 0
        have bl : bkk (yEnd Y L p) p L := by
          refine ⟨hp, ⟨k, ?_, k2, k3, ?_⟩, ?_, e0, eL 5⟩
          · rw [yEnd_o (by omega) (Or.inl (by decide))]; exact k1
          · intro e; subst e; exact v1 k1
          · unfold yEnd yJoin
            rw [up_o (by omega), up_e]
        refine ih _ (L + 1) T (q - 1) (yEnd Y L p) P ⟨⟨by omega, b2, by omega, fun i hi => by have := b4 i (by omega); omega⟩, ?_, fun i hi => ?_⟩ (fun i hi => ?_) (fun i hi => ?_) (fun i hi => ?_) h
        · rw [stc, if_pos e0, stc_cg L (fun x hx => yEnd_o (by omega) (Or.inl (by decide)))]; exact bt
        · have := b4 i (by omega)
          rw [yEnd_o (by omega) (Or.inl (by decide))]
          exact b5 i (by omega)
        · by_cases ei : i = q - 1
          · have s1 := ps (q - 1) (by omega)
            have s2 := ps q (Nat.le_refl _)
            unfold tp at s1 s2
            rw [if_neg (by omega), hpp] at s1
            rw [if_pos rfl] at s2
            have eb : bsg P q = p + 1 := by unfold bsg; rw [if_neg q0, hpp]
            rw [eb] at s2
            subst ei
            unfold tp
            rw [if_pos rfl]
            have ef : 3 - (q - 1) = (3 - q) + 1 := by omega
            rw [ef] at s1 ⊢
            exact SG.blk (s1.cg (fun x h1 h2 => cg x (by omega) (by omega))) bl (s2.cg (fun x h1 h2 => cg x h2 (by omega)))
          · have s1 := ps i (by omega)
            unfold tp at s1 ⊢
            rw [if_neg (by omega)] at s1
            rw [if_neg ei]
            have hi2 : P i ≤ p := by
              have s3 := (ps (i + 1) (by omega)).le
              have : bsg P (i + 1) = P i + 1 := by unfold bsg; rw [if_neg (by omega), Nat.add_sub_cancel]
              have go : ∀ j, i < j → j ≤ q - 1 → P i < P j := by
                intro j
                induction j with
                | zero => intro h; omega
                | succ j ihj =>
                  intro h1 h2
                  have s4 := (ps (j + 1) (by omega)).le
                  unfold bsg tp at s4
                  rw [if_neg (by omega), if_neg (by omega), Nat.add_sub_cancel] at s4
                  rcases Nat.lt_or_ge i j with x | x
                  · have := ihj x (by omega); omega
                  · have : i = j := by omega
                    subst this; omega
              have := go (q - 1) (by omega) (Nat.le_refl _)
              rw [hpp] at this; omega
            exact s1.cg (fun x h1 h2 => cg x (by have := b4 i (by omega); omega) (by omega))
        · by_cases e : i = L
          · subst e
            exact ⟨15, e0, by decide, by decide, by decide, fun x => by omega, fun x => by omega, fun x => by omega, fun x => by omega, fun x => by omega, fun x => by omega⟩
          · obtain ⟨k', a1, a2, a3, a4, a5⟩ := va i (by omega)
            have row : ∀ g, g < 5 → yEnd Y L p i g = Y i g := fun g hg => yEnd_o e (Or.inl (by omega))
            exact ⟨k', by rw [row 0 (by decide)]; exact a1, a2, a3, a4, a5.c row⟩
        · have := b4 i (by omega)
          rw [yEnd_o (by omega) (Or.inl (by decide))]
          exact v11 i (by omega)
      · cases h
    · split at h
      · cases h
      rename_i k es
      obtain ⟨hk, K, hK, hKw⟩ := stp_s es
      split at h
      · cases h
      rename_i hT
      split at h
      · cases h
      rename_i hq
      split at h
      · cases h
      rename_i s' y eo
      have eo2 : ∃ s2, yRest F n (nxt F n s) (yNew (clk k)) k N c W = .ok (s2, y) := by
        cases er : yRest F n (nxt F n s) (yNew (clk k)) k N c W with
        | error e => rw [er] at eo; cases eo
        | ok o =>
          obtain ⟨s2, y2⟩ := o
          rw [er] at eo
          unfold qSem at eo
          dsimp only at eo
          split at eo
          · cases eo; exact ⟨s2, rfl⟩
          · cases eo
      obtain ⟨s2, eo2⟩ := eo2
      obtain ⟨yk5, t, yt, ykt, yv⟩ := yk_rest (F := F) (n := n) (s := nxt F n s) (N := N) (c := c) (k := k) (y := yNew (clk k)) (W := W) hc hk rfl s2 y eo2
      have t1 : 1 ≤ t ∧ t ≤ 14 ∧ t ≠ 11 ∧ (10 ≤ t ↔ (k = 8 ∨ k = 9)) := by
        rcases ykt with ⟨e1, e2⟩ | ⟨e1, e2, e3⟩
        · rw [e2]; unfold clk; split <;> omega
        · omega
      have cg : ∀ x, x < L → yPut Y L y x = Y x := fun x h1 => yPut_o (by omega)
      have hkE : y 0 ≠ nI 15 := fun e => by rw [yt, nI_eqI (by omega) (by decide)] at e; omega
      refine ih _ (L + 1) (T + 1) (qN k q) (yPut Y L y) (pN k q L P) ⟨?_, ?_, fun i hi => ?_⟩ (fun i hi => ?_) (fun i hi => ?_) (fun i hi => ?_) h
      · unfold qN pN
        by_cases o : k = 8 ∨ k = 9
        · rw [if_pos o, if_pos o]
          refine ⟨by omega, by omega, ?_, fun i hi => ?_⟩
          · rcases Nat.lt_or_ge q 3 with x | x
            · omega
            · exact absurd ⟨o, by omega⟩ hq
          · show (if i = q then L else P i) < L + 1
            by_cases ei : i = q
            · rw [if_pos ei]; omega
            · rw [if_neg ei]; have := b4 i (by omega); omega
        · rw [if_neg o, if_neg o]
          exact ⟨by omega, by omega, b3, fun i hi => by have := b4 i hi; omega⟩
      · rw [stc, yPut_e, if_neg hkE, stc_cg L (fun x hx => by rw [cg x hx]), bt]
      · by_cases o : k = 8 ∨ k = 9
        · unfold qN at hi
          rw [if_pos o] at hi
          by_cases ei : i = q
          · have : pN k q L P i = L := by unfold pN; rw [if_pos o]; exact if_pos ei
            rw [this, yPut_e]
            exact ⟨t, yt, t1.2.2.2.mpr o, t1.2.1⟩
          · rw [pN_o (by omega)]
            have := b4 i (by omega)
            rw [cg _ (by omega)]
            exact b5 i (by omega)
        · unfold qN at hi
          rw [if_neg o] at hi
          rw [pN_o hi]
          have := b4 i hi
          rw [cg _ (by omega)]
          exact b5 i hi
      · by_cases o : k = 8 ∨ k = 9
        · have eq1 : qN k q = q + 1 := if_pos o
          have eP : pN k q L P q = L := by unfold pN; rw [if_pos o]; exact if_pos rfl
          rw [eq1] at hi ⊢
          by_cases e1 : i = q + 1
          · subst e1
            unfold tp bsg
            rw [if_pos rfl, if_neg (by omega), Nat.add_sub_cancel, eP]
            exact SG.nil
          · have s1 := ps i (by omega)
            rw [bsg_pN (by omega)]
            unfold tp at s1 ⊢
            rw [if_neg e1]
            by_cases e2 : i = q
            · subst e2
              rw [if_pos rfl] at s1
              rw [eP]
              exact s1.cg (fun x _ h2 => cg x h2)
            · rw [if_neg e2] at s1
              rw [pN_o (by omega)]
              exact s1.cg (fun x _ h2 => cg x (by have := b4 i (by omega); omega))
        · have eq1 : qN k q = q := if_neg o
          have eq2 : pN k q L P = P := if_neg o
          rw [eq1] at hi ⊢
          rw [eq2]
          have s1 := ps i hi
          unfold tp at s1 ⊢
          by_cases e2 : i = q
          · rw [if_pos e2] at s1 ⊢
            refine (s1.cg (fun x _ h2 => cg x h2)).one ⟨t, ?_, t1.1, ?_⟩
            · rw [yPut_e]; exact yt
            · have := t1.2.2.2; omega
          · rw [if_neg e2] at s1 ⊢
            exact s1.cg (fun x _ h2 => cg x (by have := b4 i (by omega); omega))
      · by_cases e : i = L
        · subst e
          rw [yPut_e]
          exact ⟨t, yt, t1.1, by omega, t1.2.2.1, yv⟩
        · rw [yPut_o e]
          exact va i (by omega)
      · by_cases o : k = 8 ∨ k = 9
        · unfold qN at hi
          rw [if_pos o] at hi
          by_cases ei : i = q
          · have : pN k q L P i = L := by unfold pN; rw [if_pos o]; exact if_pos ei
            rw [this, yPut_e, yt]
            intro e
            rw [nI_eqI (by omega) (by decide)] at e
            exact t1.2.2.1 e
          · rw [pN_o (by omega)]
            have := b4 i (by omega)
            rw [cg _ (by omega)]
            exact v11 i (by omega)
        · unfold qN at hi
          rw [if_neg o] at hi
          rw [pN_o hi]
          have := b4 i hi
          rw [cg _ (by omega)]
          exact v11 i hi
theorem pYears_pg {F : Nat → Int32} {n N c L T : Nat} {Y : YY} {W : Nat → Int64} (hc : 1 ≤ c) (h : pYears F n N c W = .ok (L, T, Y)) : PG N c L T Y :=
  yMain_pg hc 900 (skp F n 0) 0 0 0 Y0 (fun _ => 0) ⟨⟨by decide, by decide, by decide, fun i hi => absurd hi (by omega)⟩, rfl, fun i hi => absurd hi (by omega)⟩ (fun i hi => by
    have : i = 0 := by omega
    subst this
    exact SG.nil) (fun i hi => absurd hi (by omega)) (fun i hi => absurd hi (by omega)) h
