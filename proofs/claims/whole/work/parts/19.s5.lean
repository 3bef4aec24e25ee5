/-! rings about a goal: pure -/
def bsd (w a b : Nat) : Bool := decide (a = b + w ∨ b = a + w ∨ (a = b + 1 ∧ b % w ≠ w - 1) ∨ (b = a + 1 ∧ a % w ≠ w - 1))
def hasB (w N : Nat) (x : Int32) (c : Nat) : Bool := (List.range N).any (fun b => bt x b && bsd w c b)
theorem hasB_iff {w N c : Nat} {x : Int32} : hasB w N x c = true ↔ ∃ b, b < N ∧ bt x b = true ∧ bsd w c b = true := by
  unfold hasB
  rw [List.any_eq_true]
  constructor
  · rintro ⟨b, h1, h2⟩
    rw [List.mem_range] at h1
    rw [Bool.and_eq_true] at h2
    exact ⟨b, h1, h2⟩
  · rintro ⟨b, h1, h2⟩
    exact ⟨b, List.mem_range.mpr h1, by rw [Bool.and_eq_true]; exact h2⟩
def bset (w N : Nat) (x : Int32) : Int32 := orN (fun c => if hasB w N x c = true then bi c else 0) N
theorem bt_bset {w N i : Nat} {x : Int32} (hN : N ≤ 32) (hi : i < 32) : bt (bset w N x) i = true ↔ i < N ∧ hasB w N x i = true := by
  unfold bset
  rw [bt_orN]
  constructor
  · rintro ⟨j, h2, h3⟩
    split at h3
    · rename_i h4
      rw [bt_bi (by omega) hi] at h3
      subst h3; exact ⟨h2, h4⟩
    · rw [b_0] at h3; cases h3
  · rintro ⟨h1, h2⟩
    exact ⟨i, h1, by rw [if_pos h2, bt_bi hi hi]⟩
def RL (w N : Nat) (o : Int32) (t : Nat) : Nat → Int32 × Int32
  | 0 => (bi t &&& o, o &&& ((bi t &&& o) ^^^ (-1 : Int32)))
  | d + 1 => (bset w N (RL w N o t d).1 &&& (RL w N o t d).2, (RL w N o t d).2 &&& ((bset w N (RL w N o t d).1 &&& (RL w N o t d).2) ^^^ (-1 : Int32)))
def RG (w N : Nat) (o : Int32) (t d : Nat) : Int32 := (RL w N o t d).1
def LF (w N : Nat) (o : Int32) (t d : Nat) : Int32 := (RL w N o t d).2
theorem RG_0 {w N t : Nat} {o : Int32} : RG w N o t 0 = bi t &&& o := rfl
theorem LF_0 {w N t : Nat} {o : Int32} : LF w N o t 0 = o &&& (RG w N o t 0 ^^^ (-1 : Int32)) := rfl
theorem RG_s {w N t d : Nat} {o : Int32} : RG w N o t (d + 1) = bset w N (RG w N o t d) &&& LF w N o t d := rfl
theorem LF_s {w N t d : Nat} {o : Int32} : LF w N o t (d + 1) = LF w N o t d &&& (RG w N o t (d + 1) ^^^ (-1 : Int32)) := rfl
theorem bt_LF {w N t : Nat} {o : Int32} {i : Nat} (hi : i < 32) : ∀ d, bt (LF w N o t d) i = true ↔ bt o i = true ∧ ∀ e, e ≤ d → bt (RG w N o t e) i = false
  | 0 => by
    rw [LF_0, b_and, bt_not hi, Bool.and_eq_true, Bool.not_eq_true']
    constructor
    · rintro ⟨h1, h2⟩
      refine ⟨h1, fun e he => ?_⟩
      have : e = 0 := by omega
      subst this; exact h2
    · rintro ⟨h1, h2⟩
      exact ⟨h1, h2 0 (Nat.le_refl _)⟩
  | d + 1 => by
    rw [LF_s, b_and, bt_not hi, Bool.and_eq_true, Bool.not_eq_true', bt_LF hi d]
    constructor
    · rintro ⟨⟨h1, h2⟩, h3⟩
      refine ⟨h1, fun e he => ?_⟩
      rcases Nat.lt_or_ge d e with q | q
      · have : e = d + 1 := by omega
        subst this; exact h3
      · exact h2 e q
    · rintro ⟨h1, h2⟩
      exact ⟨⟨h1, fun e he => h2 e (by omega)⟩, h2 (d + 1) (Nat.le_refl _)⟩
theorem bt_RGs {w N t d : Nat} {o : Int32} (hN : N ≤ 32) {i : Nat} (hi : i < 32) : bt (RG w N o t (d + 1)) i = true ↔ (i < N ∧ bt o i = true ∧ ∃ b, b < N ∧ bt (RG w N o t d) b = true ∧ bsd w i b = true) ∧ ∀ e, e ≤ d → bt (RG w N o t e) i = false := by
  rw [RG_s, b_and, Bool.and_eq_true, bt_bset hN hi, bt_LF hi, hasB_iff]
  constructor
  · rintro ⟨⟨h1, h2⟩, h3, h4⟩; exact ⟨⟨h1, h3, h2⟩, h4⟩
  · rintro ⟨⟨h1, h3, h2⟩, h4⟩; exact ⟨⟨h1, h2⟩, h3, h4⟩
theorem RG_o {w N t : Nat} {o : Int32} (hN : N ≤ 32) {i : Nat} (hi : i < 32) : ∀ {d}, bt (RG w N o t d) i = true → bt o i = true
  | 0, h => by rw [RG_0, b_and, Bool.and_eq_true] at h; exact h.2
  | d + 1, h => ((bt_RGs hN hi).mp h).1.2.1
theorem RG_dis {w N t : Nat} {o : Int32} (hN : N ≤ 32) {i : Nat} (hi : i < 32) {d e : Nat} (h1 : bt (RG w N o t d) i = true) (h2 : bt (RG w N o t e) i = true) : d = e := by
  rcases Nat.lt_trichotomy d e with q | q | q
  · obtain ⟨e, rfl⟩ : ∃ e', e = e' + 1 := ⟨e - 1, by omega⟩
    have := ((bt_RGs hN hi).mp h2).2 d (by omega)
    rw [this] at h1; cases h1
  · exact q
  · obtain ⟨d, rfl⟩ : ∃ e', d = e' + 1 := ⟨d - 1, by omega⟩
    have := ((bt_RGs hN hi).mp h1).2 e (by omega)
    rw [this] at h2; cases h2
/-- how far a cell is, by the rings up to d; 99: in none -/
def FV (w N : Nat) (o : Int32) (t : Nat) : Nat → Nat → Nat
  | 0, a => if bt (RG w N o t 0) a = true then 1 else 99
  | d + 1, a => if bt (RG w N o t (d + 1)) a = true then d + 2 else FV w N o t d a
theorem FV_in {w N t : Nat} {o : Int32} (hN : N ≤ 32) {a : Nat} (ha : a < 32) {e : Nat} (h : bt (RG w N o t e) a = true) : ∀ {d}, e ≤ d → FV w N o t d a = e + 1
  | 0, he => by
    have : e = 0 := by omega
    subst this; rw [FV, if_pos h]
  | d + 1, he => by
    rw [FV]
    by_cases q : bt (RG w N o t (d + 1)) a = true
    · rw [if_pos q]; have := RG_dis hN ha h q; omega
    · rw [if_neg q]
      rcases Nat.lt_or_ge d e with q2 | q2
      · have : e = d + 1 := by omega
        subst this; exact absurd h q
      · exact FV_in hN ha h q2
theorem FV_out {w N t : Nat} {o : Int32} {a : Nat} : ∀ {d}, (∀ e, e ≤ d → bt (RG w N o t e) a = false) → FV w N o t d a = 99
  | 0, h => by rw [FV, if_neg (by rw [h 0 (Nat.le_refl _)]; decide)]
  | d + 1, h => by rw [FV, if_neg (by rw [h (d + 1) (Nat.le_refl _)]; decide)]; exact FV_out (fun e he => h e (by omega))
theorem FV_cases {w N t : Nat} {o : Int32} (hN : N ≤ 32) {a : Nat} (ha : a < 32) (d : Nat) : (∃ e, e ≤ d ∧ bt (RG w N o t e) a = true ∧ FV w N o t d a = e + 1) ∨ ((∀ e, e ≤ d → bt (RG w N o t e) a = false) ∧ FV w N o t d a = 99) := by
  by_cases h : ∃ e, e ≤ d ∧ bt (RG w N o t e) a = true
  · obtain ⟨e, h1, h2⟩ := h
    exact Or.inl ⟨e, h1, h2, FV_in hN ha h2 h1⟩
  · have h2 : ∀ e, e ≤ d → bt (RG w N o t e) a = false := fun e he => by
      rw [← Bool.not_eq_true]; exact fun q => h ⟨e, he, q⟩
    exact Or.inr ⟨h2, FV_out h2⟩
theorem FV_eq {w N t : Nat} {o : Int32} (hN : N ≤ 32) {a : Nat} (ha : a < 32) {d e : Nat} (hd : d < 90) (he : e ≤ d) : FV w N o t d a = e + 1 ↔ bt (RG w N o t e) a = true := by
  constructor
  · intro h
    rcases FV_cases (t := t) (o := o) (w := w) hN ha d with ⟨f, h1, h2, h3⟩ | ⟨_, h3⟩
    · have : f = e := by omega
      subst this; exact h2
    · omega
  · intro h; exact FV_in hN ha h he
theorem FV_99 {w N t : Nat} {o : Int32} (hN : N ≤ 32) {a : Nat} (ha : a < 32) {d : Nat} (hd : d < 90) : FV w N o t d a = 99 ↔ ∀ e, e ≤ d → bt (RG w N o t e) a = false := by
  rcases FV_cases (t := t) (o := o) (w := w) hN ha d with ⟨f, h1, h2, h3⟩ | ⟨h2, h3⟩
  · constructor
    · intro h; omega
    · intro h; rw [h f h1] at h2; cases h2
  · exact ⟨fun _ => h2, fun _ => h3⟩
theorem FV_le {w N t : Nat} {o : Int32} (hN : N ≤ 32) {a : Nat} (ha : a < 32) (d : Nat) : 1 ≤ FV w N o t d a ∧ (FV w N o t d a ≤ d + 1 ∨ FV w N o t d a = 99) := by
  rcases FV_cases (t := t) (o := o) (w := w) hN ha d with ⟨f, h1, h2, h3⟩ | ⟨h2, h3⟩ <;> omega
/-- a ring needs a cell: past N there is none -/
def cntF (p : Nat → Bool) : Nat → Nat
  | 0 => 0
  | n + 1 => cntF p n + (if p n = true then 1 else 0)
theorem cntF_le (p : Nat → Bool) : ∀ n, cntF p n ≤ n
  | 0 => Nat.le_refl _
  | n + 1 => by have := cntF_le p n; rw [cntF]; split <;> omega
theorem cntF_mono {p q : Nat → Bool} (h : ∀ i, p i = true → q i = true) : ∀ n, cntF p n ≤ cntF q n
  | 0 => Nat.le_refl _
  | n + 1 => by
    have := cntF_mono h n
    rw [cntF, cntF]
    by_cases h2 : p n = true
    · rw [if_pos h2, if_pos (h n h2)]; omega
    · rw [if_neg h2]; split <;> omega
theorem cntF_lt {p q : Nat → Bool} (h : ∀ i, p i = true → q i = true) {j : Nat} (h1 : p j = false) (h2 : q j = true) : ∀ n, j < n → cntF p n + 1 ≤ cntF q n
  | 0, hj => by omega
  | n + 1, hj => by
    rw [cntF, cntF]
    rcases Nat.lt_or_ge j n with q1 | q1
    · have := cntF_lt h h1 h2 n q1
      by_cases h3 : p n = true
      · rw [if_pos h3, if_pos (h n h3)]; omega
      · rw [if_neg h3]; split <;> omega
    · have : j = n := by omega
      subst this
      rw [if_neg (by rw [h1]; decide), if_pos h2]
      have := cntF_mono h j
      omega
theorem RG_lt {w N t : Nat} {o : Int32} (hN : N ≤ 32) (ho : ∀ i, i < 32 → bt o i = true → i < N) : ∀ d, (∃ i, i < 32 ∧ bt (RG w N o t d) i = true) → d + 1 ≤ cntF (fun a => decide (∃ e, e < d + 1 ∧ bt (RG w N o t e) a = true)) N
  | 0, ⟨i, h1, h2⟩ => by
    have h3 := ho i h1 (RG_o hN h1 h2)
    have := cntF_lt (p := fun _ => false) (q := fun a => decide (∃ e, e < 0 + 1 ∧ bt (RG w N o t e) a = true)) (fun _ h => by cases h) (j := i) rfl (by rw [decide_eq_true_eq]; exact ⟨0, by omega, h2⟩) N h3
    omega
  | d + 1, ⟨i, h1, h2⟩ => by
    have h3 := ho i h1 (RG_o hN h1 h2)
    obtain ⟨⟨_, _, b, hb, hb2, _⟩, h4⟩ := (bt_RGs hN h1).mp h2
    have ih := RG_lt hN ho d ⟨b, by omega, hb2⟩
    have := cntF_lt (p := fun a => decide (∃ e, e < d + 1 ∧ bt (RG w N o t e) a = true)) (q := fun a => decide (∃ e, e < d + 1 + 1 ∧ bt (RG w N o t e) a = true)) (fun a h => by
      rw [decide_eq_true_eq] at h ⊢
      obtain ⟨e, q1, q2⟩ := h
      exact ⟨e, by omega, q2⟩) (j := i) (by
      rw [decide_eq_false_iff_not]
      rintro ⟨e, q1, q2⟩
      rw [h4 e (by omega)] at q2; cases q2) (by rw [decide_eq_true_eq]; exact ⟨d + 1, by omega, h2⟩) N h3
    omega
theorem RG_far {w N t d : Nat} {o : Int32} (hN : N ≤ 32) (ho : ∀ i, i < 32 → bt o i = true → i < N) (hd : N ≤ d) {i : Nat} (hi : i < 32) : bt (RG w N o t d) i = false := by
  rw [← Bool.not_eq_true]
  intro h
  have := RG_lt hN ho d ⟨i, hi, h⟩
  have := cntF_le (fun a => decide (∃ e, e < d + 1 ∧ bt (RG w N o t e) a = true)) N
  omega
theorem RG_zero {w N t d : Nat} {o : Int32} (hN : N ≤ 32) (h : RG w N o t d = 0) : ∀ e, d ≤ e → ∀ i, i < 32 → bt (RG w N o t e) i = false := by
  intro e he i hi
  rw [← Bool.not_eq_true]
  intro q
  have : ∀ k i, i < 32 → bt (RG w N o t (d + k)) i = true → False := by
    intro k
    induction k with
    | zero => intro i hi q; rw [Nat.add_zero, h, b_0] at q; cases q
    | succ k ih =>
      intro i hi q
      obtain ⟨⟨_, _, b, hb, hb2, _⟩, _⟩ := (bt_RGs hN hi).mp q
      exact ih b (by omega) hb2
  exact this (e - d) i hi (by rw [Nat.add_sub_cancel' he]; exact q)
/-- the first below n that is so; else n -/
def lst (p : Nat → Bool) : Nat → Nat
  | 0 => 0
  | n + 1 => if lst p n < n then lst p n else if p n = true then n else n + 1
theorem lst_le (p : Nat → Bool) : ∀ n, lst p n ≤ n
  | 0 => Nat.le_refl _
  | n + 1 => by have := lst_le p n; rw [lst]; split; omega; split <;> omega
theorem lst_no {p : Nat → Bool} : ∀ {n i}, i < lst p n → p i = false
  | 0, _, h => by rw [lst] at h; omega
  | n + 1, i, h => by
    rw [lst] at h
    split at h
    · exact lst_no h
    · have h5 := lst_le p n
      rename_i h4
      split at h
      · exact lst_no (n := n) (by omega)
      · rename_i h6
        rcases Nat.lt_or_ge i n with q | q
        · exact lst_no (n := n) (by omega)
        · have : i = n := by omega
          subst this; rw [← Bool.not_eq_true]; exact h6
theorem lst_yes {p : Nat → Bool} : ∀ {n}, lst p n < n → p (lst p n) = true
  | 0, h => by omega
  | n + 1, h => by
    rw [lst] at h ⊢
    by_cases h1 : lst p n < n
    · rw [if_pos h1] at h ⊢; exact lst_yes h1
    · rw [if_neg h1] at h ⊢
      by_cases h2 : p n = true
      · rw [if_pos h2]; exact h2
      · rw [if_neg h2] at h; omega
theorem lst_is {p : Nat → Bool} {n i : Nat} (hi : i < n) (h : p i = true) (h2 : ∀ j, j < i → p j = false) : lst p n = i := by
  rcases Nat.lt_trichotomy (lst p n) i with q | q | q
  · have := lst_yes (p := p) (n := n) (by omega)
    rw [h2 _ q] at this; cases this
  · exact q
  · rw [lst_no q] at h; cases h
theorem lst_ex {p : Nat → Bool} {n : Nat} (h : ∃ i, i < n ∧ p i = true) : lst p n < n := by
  obtain ⟨i, h1, h2⟩ := h
  rcases Nat.lt_or_ge (lst p n) n with q | q
  · exact q
  · rw [lst_no (p := p) (n := n) (i := i) (by omega)] at h2; cases h2
/-- the next cell on the way inwards: the least beside c in ring d -/
def nxc (w N : Nat) (o : Int32) (t d c : Nat) : Nat := lst (fun a => bt (RG w N o t d) a && bsd w a c) N
/-- the way from f, m moves from the goal: its i-th cell -/
def wy (w N : Nat) (o : Int32) (t f m : Nat) : Nat → Nat
  | 0 => f
  | i + 1 => nxc w N o t (m - 1 - i) (wy w N o t f m i)
theorem bsd_sym {w a b : Nat} : bsd w a b = bsd w b a := by
  unfold bsd
  rw [decide_eq_decide]
  constructor <;> (rintro (h | h | h | h) <;> simp [h])
theorem nxc_ok {w N t d c : Nat} {o : Int32} (hN : N ≤ 32) (hc : c < 32) (h : bt (RG w N o t (d + 1)) c = true) : nxc w N o t d c < N ∧ bt (RG w N o t d) (nxc w N o t d c) = true ∧ bsd w (nxc w N o t d c) c = true := by
  obtain ⟨⟨h1, _, b, hb, hb2, hb3⟩, _⟩ := (bt_RGs hN hc).mp h
  have h4 : nxc w N o t d c < N := lst_ex ⟨b, hb, by rw [hb2, bsd_sym, hb3]; rfl⟩
  have h5 := lst_yes (p := fun a => bt (RG w N o t d) a && bsd w a c) (n := N) h4
  rw [Bool.and_eq_true] at h5
  exact ⟨h4, h5⟩
theorem wy_ok {w N t f m : Nat} {o : Int32} (hN : N ≤ 32) (hf : f < N) (h : bt (RG w N o t m) f = true) : ∀ i, i ≤ m → wy w N o t f m i < N ∧ bt (RG w N o t (m - i)) (wy w N o t f m i) = true
  | 0, _ => ⟨hf, h⟩
  | i + 1, hi => by
    have ih := wy_ok hN hf h i (by omega)
    have e : m - i = (m - 1 - i) + 1 := by omega
    rw [e] at ih
    have := nxc_ok hN (by omega) ih.2
    rw [wy, show m - (i + 1) = m - 1 - i by omega]
    exact ⟨this.1, this.2.1⟩
