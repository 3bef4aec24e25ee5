/-! tokens of a text: bytes F below n -/
abbrev bv (F : Nat → Int32) (p : Nat) : Int := (F p).toInt
def isB (F : Nat → Int32) (p : Nat) : Bool := decide (bv F p = 32 ∨ bv F p = 10)
def isL (F : Nat → Int32) (p : Nat) : Bool := decide (97 ≤ bv F p ∧ bv F p ≤ 122)
def isD (F : Nat → Int32) (p : Nat) : Bool := decide (48 ≤ bv F p ∧ bv F p ≤ 57)
def isS (F : Nat → Int32) (p : Nat) : Bool := decide (bv F p = 59 ∨ bv F p = 60 ∨ bv F p = 62 ∨ bv F p = 61)
theorem isB_t {F : Nat → Int32} {p : Nat} : isB F p = true ↔ bv F p = 32 ∨ bv F p = 10 := decide_eq_true_iff
theorem isL_t {F : Nat → Int32} {p : Nat} : isL F p = true ↔ 97 ≤ bv F p ∧ bv F p ≤ 122 := decide_eq_true_iff
theorem isD_t {F : Nat → Int32} {p : Nat} : isD F p = true ↔ 48 ≤ bv F p ∧ bv F p ≤ 57 := decide_eq_true_iff
theorem isS_t {F : Nat → Int32} {p : Nat} : isS F p = true ↔ bv F p = 59 ∨ bv F p = 60 ∨ bv F p = 62 ∨ bv F p = 61 := decide_eq_true_iff
/-- as far as f goes, by what is left -/
def run (f : Nat → Bool) : Nat → Nat → Nat
  | 0, p => p
  | j + 1, p => if f p = true then run f j (p + 1) else p
theorem run_le {f : Nat → Bool} : ∀ j p, p ≤ run f j p ∧ run f j p ≤ p + j
  | 0, p => ⟨Nat.le_refl _, Nat.le_refl _⟩
  | j + 1, p => by
    have ih := run_le (f := f) j (p + 1)
    rw [run]
    split <;> omega
theorem run_in {f : Nat → Bool} : ∀ j p i, p ≤ i → i < run f j p → f i = true
  | 0, p, i, h1, h2 => by rw [run] at h2; omega
  | j + 1, p, i, h1, h2 => by
    rw [run] at h2
    split at h2
    · rename_i h
      rcases Nat.lt_or_ge p i with q | q
      · exact run_in j (p + 1) i q h2
      · have : i = p := by omega
        subst this; exact h
    · omega
theorem run_end {f : Nat → Bool} : ∀ j p, run f j p < p + j → f (run f j p) = false
  | 0, p, h => by rw [run] at h; omega
  | j + 1, p, h => by
    have ih := run_end (f := f) j (p + 1)
    rw [run] at h ⊢
    split at h
    · rename_i hp; rw [if_pos hp]; exact ih (by omega)
    · rename_i hp; rw [if_neg hp]; exact Bool.eq_false_iff.mpr hp
def skp (F : Nat → Int32) (n p : Nat) : Nat := run (isB F) (n - p) p
/-- the code of m letters, the number of m digits -/
def lv (F : Nat → Int32) (p : Nat) : Nat := (F p).toNatClampNeg
def wcd (F : Nat → Int32) (s : Nat) : Nat → Nat
  | 0 => 0
  | m + 1 => 32 * wcd F s m + (lv F (s + m) - 96)
def ncd (F : Nat → Int32) (s : Nat) : Nat → Nat
  | 0 => 0
  | m + 1 => 10 * ncd F s m + (lv F (s + m) - 48)
theorem lv_t {F : Nat → Int32} {p : Nat} (h : 0 ≤ bv F p) : bv F p = lv F p ∧ F p = nI (lv F p) := by
  rcases nI_cases (F p) with q | ⟨k, h1, h2, h3⟩
  · unfold bv at h; omega
  · have : lv F p = k := by unfold lv; rw [h2, nI_clamp h1]
    rw [this]; exact ⟨h3, h2⟩
theorem lv_L {F : Nat → Int32} {p : Nat} (h : isL F p = true) : 97 ≤ lv F p ∧ lv F p ≤ 122 ∧ F p = nI (lv F p) := by
  have h1 := isL_t.mp h
  have h2 := lv_t (F := F) (p := p) (by omega)
  exact ⟨by omega, by omega, h2.2⟩
theorem lv_D {F : Nat → Int32} {p : Nat} (h : isD F p = true) : 48 ≤ lv F p ∧ lv F p ≤ 57 ∧ F p = nI (lv F p) := by
  have h1 := isD_t.mp h
  have h2 := lv_t (F := F) (p := p) (by omega)
  exact ⟨by omega, by omega, h2.2⟩
theorem wcd_lt {F : Nat → Int32} {s : Nat} : ∀ m, (∀ i, i < m → isL F (s + i) = true) → wcd F s m < 32 ^ m ∧ (0 < m → 0 < wcd F s m)
  | 0, _ => ⟨by show 0 < 32 ^ 0; decide, fun h => absurd h (by decide)⟩
  | m + 1, h => by
    have ih := wcd_lt (F := F) (s := s) m (fun i hi => h i (by omega))
    have l := lv_L (h m (by omega))
    rw [wcd, Nat.pow_succ]
    exact ⟨by omega, fun _ => by omega⟩
theorem ncd_lt {F : Nat → Int32} {s : Nat} : ∀ m, (∀ i, i < m → isD F (s + i) = true) → ncd F s m < 10 ^ m
  | 0, _ => by show 0 < 10 ^ 0; decide
  | m + 1, h => by
    have ih := ncd_lt (F := F) (s := s) m (fun i hi => h i (by omega))
    have l := lv_D (h m (by omega))
    rw [ncd, Nat.pow_succ]
    omega
/-- of the token that begins at s: where it ends, its kind, its code, its number -/
def ex (F : Nat → Int32) (n s : Nat) : Nat := if n ≤ s then s else if isL F s = true then run (isL F) (n - s) s else if isD F s = true then run (isD F) (n - s) s else s + 1
def kd (F : Nat → Int32) (n s : Nat) : Nat := if n ≤ s then 0 else if isL F s = true then 1 else if isD F s = true then (if 4 < ex F n s - s then 4 else 2) else if isS F s = true then 3 else 4
def wc (F : Nat → Int32) (n s : Nat) : Nat := if 8 < ex F n s - s then 0 else wcd F s (ex F n s - s)
def nm (F : Nat → Int32) (n s : Nat) : Nat := ncd F s (ex F n s - s)
/-- the next token's beginning -/
def nxt (F : Nat → Int32) (n s : Nat) : Nat := skp F n (ex F n s)
theorem skp_le {F : Nat → Int32} {n p : Nat} (h : p ≤ n) : p ≤ skp F n p ∧ skp F n p ≤ n := by
  have := run_le (f := isB F) (n - p) p
  unfold skp; omega
theorem ex_le {F : Nat → Int32} {n s : Nat} (h : s ≤ n) : s ≤ ex F n s ∧ ex F n s ≤ n ∧ (s < n → s < ex F n s) := by
  unfold ex
  by_cases q : n ≤ s
  · rw [if_pos q]; omega
  · rw [if_neg q]
    have hn : n - s = (n - s - 1) + 1 := by omega
    by_cases q2 : isL F s = true
    · have := run_le (f := isL F) (n - s - 1) (s + 1)
      rw [if_pos q2, hn, run, if_pos q2]; omega
    · rw [if_neg q2]
      by_cases q3 : isD F s = true
      · have := run_le (f := isD F) (n - s - 1) (s + 1)
        rw [if_pos q3, hn, run, if_pos q3]; omega
      · rw [if_neg q3]; omega
theorem nxt_le {F : Nat → Int32} {n s : Nat} (h : s ≤ n) : s ≤ nxt F n s ∧ nxt F n s ≤ n ∧ (s < n → s < nxt F n s) := by
  have h1 := ex_le (F := F) h
  have h2 := skp_le (F := F) h1.2.1
  unfold nxt; omega
theorem kd_0 {F : Nat → Int32} {n s : Nat} : kd F n s = 0 ↔ n ≤ s := by
  unfold kd
  by_cases q : n ≤ s
  · rw [if_pos q]; exact ⟨fun _ => q, fun _ => rfl⟩
  · rw [if_neg q]
    refine ⟨fun h => ?_, fun h => absurd h q⟩
    split at h
    · cases h
    · split at h
      · split at h <;> cases h
      · split at h <;> cases h
theorem kd_1 {F : Nat → Int32} {n s : Nat} (h : kd F n s = 1) : s < n ∧ isL F s = true ∧ ex F n s = run (isL F) (n - s) s := by
  unfold kd at h
  by_cases q : n ≤ s
  · rw [if_pos q] at h; cases h
  · rw [if_neg q] at h
    by_cases q2 : isL F s = true
    · refine ⟨by omega, q2, ?_⟩
      unfold ex; rw [if_neg q, if_pos q2]
    · rw [if_neg q2] at h
      split at h
      · split at h <;> cases h
      · split at h <;> cases h
theorem kd_2 {F : Nat → Int32} {n s : Nat} (h : kd F n s = 2) : s < n ∧ ex F n s = run (isD F) (n - s) s ∧ ex F n s - s ≤ 4 := by
  unfold kd at h
  by_cases q : n ≤ s
  · rw [if_pos q] at h; cases h
  · rw [if_neg q] at h
    by_cases q2 : isL F s = true
    · rw [if_pos q2] at h; cases h
    · rw [if_neg q2] at h
      by_cases q3 : isD F s = true
      · rw [if_pos q3] at h
        refine ⟨by omega, ?_, ?_⟩
        · unfold ex; rw [if_neg q, if_neg q2, if_pos q3]
        · split at h
          · cases h
          · omega
      · rw [if_neg q3] at h
        split at h <;> cases h
theorem wc_lt {F : Nat → Int32} {n s : Nat} (h : kd F n s = 1) : wc F n s < 1099511627776 := by
  have h1 := kd_1 h
  unfold wc
  split
  · decide
  · have := (wcd_lt (F := F) (s := s) (ex F n s - s) (fun i hi => run_in (f := isL F) (n - s) s _ (by omega) (by rw [← h1.2.2]; omega))).1
    have : 32 ^ (ex F n s - s) ≤ 32 ^ 8 := Nat.pow_le_pow_right (by decide) (by omega)
    have e : 32 ^ 8 = 1099511627776 := rfl
    omega
theorem wc_0 {F : Nat → Int32} {n s : Nat} (h : kd F n s = 1) : wc F n s = 0 ↔ 8 < ex F n s - s := by
  have h1 := kd_1 h
  have h2 := ex_le (F := F) (n := n) (s := s) (by omega)
  unfold wc
  by_cases q : 8 < ex F n s - s
  · rw [if_pos q]; exact ⟨fun _ => q, fun _ => rfl⟩
  · rw [if_neg q]
    have := (wcd_lt (F := F) (s := s) (ex F n s - s) (fun i hi => run_in (f := isL F) (n - s) s _ (by omega) (by rw [← h1.2.2]; omega))).2 (by omega)
    exact ⟨fun h => by omega, fun h => absurd h q⟩
theorem nm_lt {F : Nat → Int32} {n s : Nat} (h : kd F n s = 2) : nm F n s < 10000 := by
  have h1 := kd_2 h
  have := ncd_lt (F := F) (s := s) (ex F n s - s) (fun i hi => run_in (f := isD F) (n - s) s _ (by omega) (by rw [← h1.2.1]; omega))
  have : 10 ^ (ex F n s - s) ≤ 10 ^ 4 := Nat.pow_le_pow_right (by decide) h1.2.2
  have e : 10 ^ 4 = 10000 := rfl
  unfold nm; omega
