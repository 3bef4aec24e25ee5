/-! lines, steps: pure -/
def gP (p : (Nat → Int32) → Prop) (o : YO) : Prop := ∀ s y, o = .ok (s, y) → p y
theorem gp_e {p : (Nat → Int32) → Prop} {e : Nat × Nat} : gP p (.error e) := fun _ _ h => by cases h
theorem gp_o {p : (Nat → Int32) → Prop} {s : Nat} {y : Nat → Int32} (h : p y) : gP p (.ok (s, y)) := fun _ _ e => by cases e; exact h
theorem gp_num {p : (Nat → Int32) → Prop} {n s lo hi : Nat} {F : Nat → Int32} {K : Nat → Nat → YO} (h : ∀ m s', lo ≤ m → m ≤ hi → gP p (K m s')) : gP p (qNum F n s lo hi K) := by
  unfold qNum
  split
  · rename_i e
    have := sN_0 e
    exact h _ _ this.2.1 this.2.2
  · exact gp_e
theorem gp_cou {p : (Nat → Int32) → Prop} {n s N : Nat} {F : Nat → Int32} {W : Nat → Int64} {K : Nat → Nat → YO} (h : ∀ m s', m < N → gP p (K m s')) : gP p (qCou F n s N W K) := by
  unfold qCou
  split
  · exact gp_e
  · split
    · exact gp_e
    · rename_i k e
      have := nmf_lt _ _ e
      exact h _ _ (by omega)
theorem gp_if {p : (Nat → Int32) → Prop} {c : Prop} [Decidable c] {a b : YO} (h1 : c → gP p a) (h2 : ¬ c → gP p b) : gP p (if c then a else b) := by
  split
  · exact h1 (by assumption)
  · exact h2 (by assumption)
/-- what a line's numbers are: N cousins, c cells -/
def VL (N c k : Nat) (y : Nat → Int32) : Prop := (k = 1 ∨ (3 ≤ k ∧ k ≤ 7) ∨ (12 ≤ k ∧ k ≤ 14) → ∃ a, a < N ∧ y 1 = nI a) ∧ (k = 1 ∨ k = 2 → ∃ m, 1 ≤ m ∧ m ≤ 9 ∧ y 2 = nI m) ∧ (k = 5 ∨ k = 7 ∨ k = 12 → ∃ m, m < c ∧ y 2 = nI m) ∧ (k = 7 → (∃ m, m < c ∧ y 3 = nI m) ∧ ∃ m, 1 ≤ m ∧ m ≤ 10 ∧ y 4 = nI m) ∧ (k = 10 → ∃ m, 1 ≤ m ∧ m ≤ 99 ∧ y 2 = nI m) ∧ (k = 13 → ∃ m, m ≤ 9 ∧ y 2 = nI m)
/-- what reading the rest of a line makes of it: k is the word's number -/
def YK (N c k : Nat) (y y' : Nat → Int32) : Prop := y' 5 = y 5 ∧ ∃ t, y' 0 = nI t ∧ ((k ≠ 8 ∧ t = clk k) ∨ (k = 8 ∧ 12 ≤ t ∧ t ≤ 14)) ∧ VL N c t y'
theorem yk_test {F : Nat → Int32} {n s N c : Nat} {y : Nat → Int32} {W : Nat → Int64} (hc : 1 ≤ c) : gP (YK N c 8 y) (yTest F n s y N c W) := by
  refine gp_if (fun _ => gp_cou (fun a s1 ha => gp_num (fun m s2 h1 h2 => gp_o ⟨?_, 12, ?_, Or.inr ⟨rfl, by decide, by decide⟩, fun _ => ⟨a, ha, ?_⟩, fun h => absurd h (by decide), fun _ => ⟨m, by omega, ?_⟩, fun h => absurd h (by decide), fun h => absurd h (by decide), fun h => absurd h (by decide)⟩))) (fun _ => gp_if (fun _ => gp_cou (fun a s1 ha => gp_if (fun _ => gp_num (fun m s2 h1 h2 => gp_o ⟨?_, 13, ?_, Or.inr ⟨rfl, by decide, by decide⟩, fun _ => ⟨a, ha, ?_⟩, fun h => absurd h (by decide), fun h => absurd h (by decide), fun h => absurd h (by decide), fun h => absurd h (by decide), fun _ => ⟨m, h2, ?_⟩⟩)) (fun _ => gp_e))) (fun _ => gp_if (fun _ => gp_cou (fun a s1 ha => gp_o ⟨?_, 14, ?_, Or.inr ⟨rfl, by decide, by decide⟩, fun _ => ⟨a, ha, ?_⟩, fun h => absurd h (by decide), fun h => absurd h (by decide), fun h => absurd h (by decide), fun h => absurd h (by decide), fun h => absurd h (by decide)⟩)) (fun _ => gp_e)))
  all_goals simp (disch := decide) only [ub_o, ub_e]
theorem yk_rest {F : Nat → Int32} {n s N c k : Nat} {y : Nat → Int32} {W : Nat → Int64} (hc : 1 ≤ c) (hk : k ≤ 10) (hy : y 0 = nI (clk k)) : gP (YK N c k y) (yRest F n s y k N c W) := by
  rcases (by omega : k = 0 ∨ k = 1 ∨ (k = 2 ∨ k = 3 ∨ k = 5) ∨ k = 4 ∨ k = 6 ∨ (k = 7 ∨ k = 10) ∨ k = 8 ∨ k = 9) with rfl | rfl | h | rfl | rfl | h | rfl | rfl
  · rw [yR0]
    refine gp_cou (fun a s1 ha => gp_num (fun m s2 h1 h2 => gp_o ⟨?_, 1, ?_, Or.inl ⟨by decide, rfl⟩, fun _ => ⟨a, ha, ?_⟩, fun _ => ⟨m, h1, h2, ?_⟩, fun h => absurd h (by decide), fun h => absurd h (by decide), fun h => absurd h (by decide), fun h => absurd h (by decide)⟩))
    · simp (disch := decide) only [ub_o, ub_e]
    · rw [ub_o (by decide), ub_o (by decide)]; exact hy
    · simp (disch := decide) only [ub_o, ub_e]
    · simp (disch := decide) only [ub_o, ub_e]
  · rw [yR1]
    refine gp_num (fun m s2 h1 h2 => gp_o ⟨?_, 2, ?_, Or.inl ⟨by decide, rfl⟩, fun h => absurd h (by decide), fun _ => ⟨m, h1, h2, ?_⟩, fun h => absurd h (by decide), fun h => absurd h (by decide), fun h => absurd h (by decide), fun h => absurd h (by decide)⟩)
    · simp (disch := decide) only [ub_o, ub_e]
    · rw [ub_o (by decide)]; exact hy
    · simp (disch := decide) only [ub_o, ub_e]
  · rw [yR235 h]
    have hcl : clk k = 3 ∨ clk k = 4 ∨ clk k = 6 := by unfold clk; split <;> omega
    refine gp_cou (fun a s1 ha => gp_o ⟨?_, clk k, ?_, Or.inl ⟨by omega, rfl⟩, fun _ => ⟨a, ha, ?_⟩, fun h => absurd h (by omega), fun h => absurd h (by omega), fun h => absurd h (by omega), fun h => absurd h (by omega), fun h => absurd h (by omega)⟩)
    · simp (disch := decide) only [ub_o, ub_e]
    · rw [ub_o (by decide)]; exact hy
    · simp (disch := decide) only [ub_o, ub_e]
  · rw [yR4]
    refine gp_cou (fun a s1 ha => gp_num (fun m s2 h1 h2 => gp_o ⟨?_, 5, ?_, Or.inl ⟨by decide, rfl⟩, fun _ => ⟨a, ha, ?_⟩, fun h => absurd h (by decide), fun _ => ⟨m, by omega, ?_⟩, fun h => absurd h (by decide), fun h => absurd h (by decide), fun h => absurd h (by decide)⟩))
    · simp (disch := decide) only [ub_o, ub_e]
    · rw [ub_o (by decide), ub_o (by decide)]; exact hy
    · simp (disch := decide) only [ub_o, ub_e]
    · simp (disch := decide) only [ub_o, ub_e]
  · rw [yR6]
    refine gp_cou (fun a s1 ha => gp_num (fun m s2 h1 h2 => gp_num (fun m2 s3 h3 h4 => gp_num (fun m3 s4 h5 h6 => gp_o ⟨?_, 7, ?_, Or.inl ⟨by decide, rfl⟩, fun _ => ⟨a, ha, ?_⟩, fun h => absurd h (by decide), fun _ => ⟨m, by omega, ?_⟩, fun _ => ⟨⟨m2, by omega, ?_⟩, ⟨m3, h5, h6, ?_⟩⟩, fun h => absurd h (by decide), fun h => absurd h (by decide)⟩))))
    · simp (disch := decide) only [ub_o, ub_e]
    · rw [ub_o (by decide), ub_o (by decide), ub_o (by decide), ub_o (by decide)]; exact hy
    · simp (disch := decide) only [ub_o, ub_e]
    · simp (disch := decide) only [ub_o, ub_e]
    · simp (disch := decide) only [ub_o, ub_e]
    · simp (disch := decide) only [ub_o, ub_e]
  · rw [yR7 h]
    have hcl : clk k = 8 ∨ clk k = 9 := by unfold clk; split <;> omega
    exact gp_o ⟨rfl, clk k, hy, Or.inl ⟨by omega, rfl⟩, fun h => absurd h (by omega), fun h => absurd h (by omega), fun h => absurd h (by omega), fun h => absurd h (by omega), fun h => absurd h (by omega), fun h => absurd h (by omega)⟩
  · rw [yR8]
    exact yk_test hc
  · rw [yR9]
    refine gp_num (fun m s2 h1 h2 => gp_o ⟨?_, 10, ?_, Or.inl ⟨by decide, rfl⟩, fun h => absurd h (by decide), fun h => absurd h (by decide), fun h => absurd h (by decide), fun h => absurd h (by decide), fun _ => ⟨m, h1, h2, ?_⟩, fun h => absurd h (by decide)⟩)
    · simp (disch := decide) only [ub_o, ub_e]
    · rw [ub_o (by decide)]; exact hy
    · simp (disch := decide) only [ub_o, ub_e]
/-- how many steps stand ahead of a line -/
def stc (Y : YY) : Nat → Nat
  | 0 => 0
  | i + 1 => stc Y i + (if Y i 0 = nI 15 then 0 else 1)
theorem stc_cg {Y Y' : YY} : ∀ i, (∀ k, k < i → Y' k 0 = Y k 0) → stc Y' i = stc Y i
  | 0, _ => rfl
  | i + 1, h => by rw [stc, stc, stc_cg i (fun k hk => h k (by omega)), h i (by omega)]
theorem stc_mono {Y : YY} {i : Nat} : ∀ j, stc Y i ≤ stc Y (i + j)
  | 0 => Nat.le_refl _
  | j + 1 => by
    have := stc_mono (Y := Y) (i := i) j
    rw [← Nat.add_assoc, stc]
    omega
theorem stc_lt {Y : YY} {i j : Nat} (h : Y i 0 ≠ nI 15) (hij : i < j) : stc Y i < stc Y j := by
  have h1 := stc_mono (Y := Y) (i := i + 1) (j - (i + 1))
  rw [show i + 1 + (j - (i + 1)) = j by omega, stc, if_neg h] at h1
  omega
theorem stc_ne {Y : YY} {i j : Nat} (h : Y i 0 ≠ nI 15) (h2 : Y j 0 ≠ nI 15) (hij : i ≠ j) : stc Y i ≠ stc Y j := by
  rcases Nat.lt_or_ge i j with q | q
  · have := stc_lt h q; omega
  · have := stc_lt h2 (by omega : j < i); omega
theorem stc_le {Y : YY} : ∀ i, stc Y i ≤ i
  | 0 => Nat.le_refl _
  | i + 1 => by
    have := stc_le (Y := Y) i
    rw [stc]
    split <;> omega
/-- the reference's steps at b of the lines -/
def YM (f : Nat → Int32) (b L : Nat) (Y : YY) : Prop := ∀ i, i < L → Y i 0 ≠ nI 15 → ∃ k, 1 ≤ k ∧ k ≤ 14 ∧ k ≠ 11 ∧ Y i 0 = nI k ∧ RZ f (b + 9 * stc Y i) k (Y i) ∧ (k < 10 → f (b + 9 * stc Y i + 8) = nI (stc Y i + 1)) ∧ (10 ≤ k → Y i 5 = -1 ∨ ∃ p, i < p ∧ p < L ∧ Y i 5 = nI p ∧ f (b + 9 * stc Y i + 8) = nI (stc Y p))
theorem RZ.c {f f' : Nat → Int32} {w k : Nat} {y y' : Nat → Int32} (h : RZ f w k y) (hf : ∀ i, w ≤ i → i < w + 8 → f' i = f i) (hy : ∀ i, i < 5 → y' i = y i) : RZ f' w k y' := by
  unfold RZ at *
  rw [hf w (by omega) (by omega), hf (w + 1) (by omega) (by omega), hf (w + 2) (by omega) (by omega), hf (w + 3) (by omega) (by omega), hf (w + 4) (by omega) (by omega), hf (w + 5) (by omega) (by omega), hf (w + 6) (by omega) (by omega), hf (w + 7) (by omega) (by omega), hy 1 (by decide), hy 2 (by decide), hy 3 (by decide), hy 4 (by decide)]
  exact h
/-- a line more: its step's words stand at b + 9 T -/
theorem YM.add {f f' : Nat → Int32} {b L T k : Nat} {Y : YY} {y : Nat → Int32} (h : YM f b L Y) (ht : stc Y L = T) (hf : ∀ i, i < b + 9 * T → f' i = f i) (k1 : 1 ≤ k) (k2 : k ≤ 14) (k3 : k ≠ 11) (hy : y 0 = nI k) (hr : RZ f' (b + 9 * T) k y) (h8 : k < 10 → f' (b + 9 * T + 8) = nI (T + 1)) (h5 : y 5 = -1) : YM f' b (L + 1) (yPut Y L y) := by
  have cg : ∀ i, i ≤ L → stc (yPut Y L y) i = stc Y i := fun i hi => stc_cg i (fun k hk => by rw [yPut_o (by omega)])
  intro i hi hk
  by_cases e : i = L
  · subst e
    rw [yPut_e, cg i (Nat.le_refl _), ht]
    exact ⟨k, k1, k2, k3, hy, hr, h8, fun _ => Or.inl h5⟩
  · rw [yPut_o e] at hk ⊢
    obtain ⟨k', a1, a2, a3, a4, a5, a6, a7⟩ := h i (by omega) hk
    have lt := stc_lt hk (by omega : i < L)
    rw [cg i (by omega)]
    refine ⟨k', a1, a2, a3, a4, a5.c (fun q q1 q2 => hf q (by omega)) (fun _ _ => rfl), fun q => by rw [hf _ (by omega)]; exact a6 q, fun q => ?_⟩
    rcases a7 q with a | ⟨p, p1, p2, p3, p4⟩
    · exact Or.inl a
    · exact Or.inr ⟨p, p1, by omega, p3, by rw [hf _ (by omega), cg p (by omega)]; exact p4⟩
/-- an end -/
theorem YM.fin {f f' : Nat → Int32} {b L T p k : Nat} {Y : YY} (h : YM f b L Y) (ht : stc Y L = T) (hp : p < L) (hk : Y p 0 = nI k) (k10 : 10 ≤ k) (k14 : k ≤ 14) (hf : ∀ i, i ≠ b + 9 * stc Y p + 8 → f' i = f i) (h8 : f' (b + 9 * stc Y p + 8) = nI T) : YM f' b (L + 1) (yEnd Y L p) := by
  have hpn : Y p 0 ≠ nI 15 := by rw [hk]; intro e; rw [nI_eqI (by omega) (by decide)] at e; omega
  have row : ∀ i, i ≠ L → ∀ g, g ≠ 5 ∨ i ≠ p → yEnd Y L p i g = Y i g := fun i hi g hg => by
    unfold yEnd yJoin
    rw [up_o hi]
    by_cases e : i = p
    · subst e
      rw [up_i (by omega), yPut_o hi]
    · rw [up_o e, yPut_o hi]
  have cg : ∀ i, i ≤ L → stc (yEnd Y L p) i = stc Y i := fun i hi => stc_cg i (fun k hk => row k (by omega) 0 (Or.inl (by decide)))
  have hL : yEnd Y L p L 0 = nI 15 := by
    unfold yEnd yJoin
    rw [up_i (by decide), up_o (by omega), yPut_e]; rfl
  intro i hi hk2
  have e : i ≠ L := fun e => hk2 (by rw [e]; exact hL)
  have r0 := row i e 0 (Or.inl (by decide))
  rw [r0] at hk2
  obtain ⟨k', a1, a2, a3, a4, a5, a6, a7⟩ := h i (by omega) hk2
  rw [cg i (by omega), r0]
  by_cases ep : i = p
  · subst ep
    rw [hk, nI_eqI (by omega) (by omega)] at a4
    subst a4
    refine ⟨k, a1, a2, a3, hk, a5.c (fun q q1 q2 => hf q (by omega)) (fun g hg => row i e g (Or.inl (by omega))), fun q => by omega, fun _ => Or.inr ⟨L, hp, by omega, ?_, ?_⟩⟩
    · unfold yEnd yJoin
      rw [up_o e, up_e]
    · rw [cg L (Nat.le_refl _), ht]; exact h8
  · have ne := stc_ne hk2 hpn ep
    refine ⟨k', a1, a2, a3, a4, a5.c (fun q q1 q2 => hf q (by omega)) (fun g hg => row i e g (Or.inr ep)), fun q => by rw [hf _ (by omega)]; exact a6 q, fun q => ?_⟩
    rw [row i e 5 (Or.inr ep)]
    rcases a7 q with a | ⟨p', p1, p2, p3, p4⟩
    · exact Or.inl a
    · exact Or.inr ⟨p', p1, by omega, p3, by rw [hf _ (by omega), cg p' (by omega)]; exact p4⟩
theorem yEnd_o {Y : YY} {L p i g : Nat} (hi : i ≠ L) (hg : g ≠ 5 ∨ i ≠ p) : yEnd Y L p i g = Y i g := by
  unfold yEnd yJoin
  rw [up_o hi]
  by_cases e : i = p
  · subst e
    rw [up_i (by omega), yPut_o hi]
  · rw [up_o e, yPut_o hi]
