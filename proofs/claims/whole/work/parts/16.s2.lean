/-! a coast as a row of words: B 0 wide, 1 high, 2 rocks, 3 cousins, 4 odds, 5 struck, 6 came in, 7.. cells, 22.. depths, 37.. first cells, 43.. wides, 49.. highs, 55.. tans, 61.. veiled, 67.. inked -/
abbrev bi (c : Nat) : Int32 := (nI 1) <<< (nI c &&& 31)
def bn (B : Nat → Int32) (i : Nat) : Nat := (B i).toNatClampNeg
def rg (x : Int32) (lo hi : Nat) : Prop := x = nI x.toNatClampNeg ∧ lo ≤ x.toNatClampNeg ∧ x.toNatClampNeg ≤ hi
def ce (B : Nat → Int32) : Nat := bn B 0 * bn B 1
def inP (B : Nat → Int32) (k c : Nat) : Bool := decide (bn B (37 + k) % bn B 0 ≤ c % bn B 0 ∧ c % bn B 0 < bn B (37 + k) % bn B 0 + bn B (43 + k) ∧ bn B (37 + k) / bn B 0 ≤ c / bn B 0 ∧ c / bn B 0 < bn B (37 + k) / bn B 0 + bn B (49 + k))
def PW (B : Nat → Int32) (k : Nat) : Prop := rg (B (37 + k)) 0 (ce B - 1) ∧ rg (B (43 + k)) 1 (bn B 0 - bn B (37 + k) % bn B 0) ∧ rg (B (49 + k)) 1 (bn B 1 - bn B (37 + k) / bn B 0) ∧ rg (B (55 + k)) 0 9 ∧ (B (61 + k) = 0 ∨ B (61 + k) = 1) ∧ (∀ c, c < 32 → bt (B (67 + k)) c = true → inP B k c = true) ∧ ctN (B (67 + k)) 30 ≤ 6
def WF (B : Nat → Int32) : Prop := rg (B 0) 1 6 ∧ rg (B 1) 1 5 ∧ rg (B 2) 0 15 ∧ rg (B 3) 0 6 ∧ rg (B 4) 0 16 ∧
  (∀ r, r < bn B 2 → rg (B (7 + r)) 0 (ce B - 1) ∧ rg (B (22 + r)) 0 9) ∧ (∀ r s, r < s → s < bn B 2 → bn B (7 + r) ≠ bn B (7 + s)) ∧ ∀ k, k < bn B 3 → PW B k
def pat (B : Nat → Int32) (k : Nat) : Int32 := orN (fun c => if inP B k c = true then bi c else 0) (ce B)
def shal (B : Nat → Int32) (t : Nat) : Int32 := orN (fun r => if bn B (22 + r) < t then bi (bn B (7 + r)) else 0) (bn B 2)
def rset (B : Nat → Int32) : Int32 := orN (fun r => bi (bn B (7 + r))) (bn B 2)
def shown (B : Nat → Int32) (k : Nat) : Int32 := if B (61 + k) = 1 then 0 else B (67 + k) ||| orN (fun r => if inP B k (bn B (7 + r)) = true ∧ bn B (22 + r) < bn B (55 + k) then bi (bn B (7 + r)) else 0) (bn B 2)
def vset (B : Nat → Int32) : Int32 := orN (fun k => if B (61 + k) = 1 then bi k else 0) (bn B 3)
def pof (B : Nat → Int32) (x : Int32) : Int32 := orN (fun k => if bt x k = true then pat B k else 0) (bn B 3)
def cha (B : Nat → Int32) (x : Int32) : Int32 := orN (fun k => if bt x k = true ∧ B (61 + k) = 0 then pat B k else 0) (bn B 3)
def spo (B : Nat → Int32) (x : Int32) : Int32 := orN (fun k => if bt x k = true then shown B k else 0) (bn B 3)
def ope (B : Nat → Int32) (x : Int32) : Int32 := cha B x &&& (spo B x ^^^ (-1 : Int32))
def tog (B : Nat → Int32) : Nat → Nat
  | 0 => 0
  | n + 1 => tog B n + bn B (55 + n)
def beg (B : Nat → Int32) (p q : Nat) : Int32 := orN (fun i => if i % bn B 0 + p ≤ bn B 0 ∧ i / bn B 0 + q ≤ bn B 1 then bi i else 0) (ce B)
theorem rg.e {x : Int32} {lo hi : Nat} (h : rg x lo hi) : x = nI x.toNatClampNeg := h.1
theorem rg_nI {n lo hi : Nat} (h1 : lo ≤ n) (h2 : n ≤ hi) (h3 : hi < 2147483648) : rg (nI n) lo hi := by
  have : (nI n).toNatClampNeg = n := nI_clamp (by omega)
  exact ⟨by rw [this], by omega, by omega⟩
theorem bn_nI {B : Nat → Int32} {i n : Nat} (h : B i = nI n) (hn : n < 2147483648) : bn B i = n := by unfold bn; rw [h, nI_clamp hn]
theorem WF.w {B : Nat → Int32} (h : WF B) : B 0 = nI (bn B 0) ∧ 1 ≤ bn B 0 ∧ bn B 0 ≤ 6 := h.1
theorem WF.h {B : Nat → Int32} (h : WF B) : B 1 = nI (bn B 1) ∧ 1 ≤ bn B 1 ∧ bn B 1 ≤ 5 := h.2.1
theorem WF.r {B : Nat → Int32} (h : WF B) : B 2 = nI (bn B 2) ∧ bn B 2 ≤ 15 := ⟨h.2.2.1.1, h.2.2.1.2.2⟩
theorem WF.c {B : Nat → Int32} (h : WF B) : B 3 = nI (bn B 3) ∧ bn B 3 ≤ 6 := ⟨h.2.2.2.1.1, h.2.2.2.1.2.2⟩
theorem WF.o {B : Nat → Int32} (h : WF B) : B 4 = nI (bn B 4) ∧ bn B 4 ≤ 16 := ⟨h.2.2.2.2.1.1, h.2.2.2.2.1.2.2⟩
theorem ce_le {B : Nat → Int32} (h : WF B) : 1 ≤ ce B ∧ ce B ≤ 30 := by
  obtain ⟨_, a1, a2⟩ := h.w
  obtain ⟨_, b1, b2⟩ := h.h
  refine ⟨Nat.mul_pos a1 b1, Nat.le_trans (Nat.mul_le_mul a2 b2) (by decide)⟩
theorem WF.cl {B : Nat → Int32} (h : WF B) {r : Nat} (hr : r < bn B 2) : B (7 + r) = nI (bn B (7 + r)) ∧ bn B (7 + r) < ce B ∧ bn B (7 + r) < 30 := by
  have h1 := (h.2.2.2.2.2.1 r hr).1
  have h2 := ce_le h
  exact ⟨h1.1, by have := h1.2.2; unfold bn; omega, by have := h1.2.2; unfold bn; omega⟩
theorem WF.dp {B : Nat → Int32} (h : WF B) {r : Nat} (hr : r < bn B 2) : B (22 + r) = nI (bn B (22 + r)) ∧ bn B (22 + r) ≤ 9 := ⟨(h.2.2.2.2.2.1 r hr).2.1, (h.2.2.2.2.2.1 r hr).2.2.2⟩
theorem WF.nd {B : Nat → Int32} (h : WF B) {r s : Nat} (h1 : r < bn B 2) (h2 : s < bn B 2) (he : bn B (7 + r) = bn B (7 + s)) : r = s := by
  rcases Nat.lt_trichotomy r s with q | q | q
  · exact absurd he (h.2.2.2.2.2.2.1 r s q h2)
  · exact q
  · exact absurd he.symm (h.2.2.2.2.2.2.1 s r q h1)
theorem WF.pw {B : Nat → Int32} (h : WF B) {k : Nat} (hk : k < bn B 3) : PW B k := h.2.2.2.2.2.2.2 k hk
theorem WF.at' {B : Nat → Int32} (h : WF B) {k : Nat} (hk : k < bn B 3) : B (37 + k) = nI (bn B (37 + k)) ∧ bn B (37 + k) < ce B := by
  have h1 := (h.pw hk).1
  have h2 := ce_le h
  exact ⟨h1.1, by have := h1.2.2; unfold bn; omega⟩
theorem WF.br {B : Nat → Int32} (h : WF B) {k : Nat} (hk : k < bn B 3) : B (43 + k) = nI (bn B (43 + k)) ∧ 1 ≤ bn B (43 + k) ∧ bn B (37 + k) % bn B 0 + bn B (43 + k) ≤ bn B 0 := by
  have h1 := (h.pw hk).2.1
  have h2 : bn B (37 + k) % bn B 0 < bn B 0 := Nat.mod_lt _ h.w.2.1
  exact ⟨h1.1, h1.2.1, by have := h1.2.2; unfold bn at *; omega⟩
theorem WF.tl {B : Nat → Int32} (h : WF B) {k : Nat} (hk : k < bn B 3) : B (49 + k) = nI (bn B (49 + k)) ∧ 1 ≤ bn B (49 + k) ∧ bn B (37 + k) / bn B 0 + bn B (49 + k) ≤ bn B 1 := by
  have h1 := (h.pw hk).2.2.1
  have h2 : bn B (37 + k) / bn B 0 < bn B 1 := by rw [Nat.div_lt_iff_lt_mul h.w.2.1, Nat.mul_comm]; exact (h.at' hk).2
  exact ⟨h1.1, h1.2.1, by have := h1.2.2; unfold bn at *; omega⟩
theorem WF.tn {B : Nat → Int32} (h : WF B) {k : Nat} (hk : k < bn B 3) : B (55 + k) = nI (bn B (55 + k)) ∧ bn B (55 + k) ≤ 9 := ⟨(h.pw hk).2.2.2.1.1, (h.pw hk).2.2.2.1.2.2⟩
theorem WF.ve {B : Nat → Int32} (h : WF B) {k : Nat} (hk : k < bn B 3) : B (61 + k) = 0 ∨ B (61 + k) = 1 := (h.pw hk).2.2.2.2.1
theorem WF.ik {B : Nat → Int32} (h : WF B) {k : Nat} (hk : k < bn B 3) : (∀ c, c < 32 → bt (B (67 + k)) c = true → inP B k c = true) ∧ ctN (B (67 + k)) 30 ≤ 6 := (h.pw hk).2.2.2.2.2
/-! the bits of the sets -/
theorem bt_bi {c i : Nat} (hc : c < 32) (hi : i < 32) : bt (bi c) i = true ↔ i = c := by rw [bt_bit hc hi, decide_eq_true_eq]
theorem b_same {x y : Int32} (h : ∀ i, i < 32 → (bt x i = true ↔ bt y i = true)) : x = y := b_ext (fun i hi => by
  have := h i hi
  cases h1 : bt x i <;> cases h2 : bt y i <;> simp_all)
theorem inP_lt {B : Nat → Int32} (h : WF B) {k c : Nat} (hk : k < bn B 3) (hp : inP B k c = true) : c < ce B := by
  unfold inP at hp
  rw [decide_eq_true_eq] at hp
  have h1 := (h.tl hk).2.2
  have h2 : c / bn B 0 < bn B 1 := by omega
  rw [Nat.div_lt_iff_lt_mul h.w.2.1, Nat.mul_comm] at h2
  exact h2
theorem bt_pat {B : Nat → Int32} (h : WF B) {k i : Nat} (hk : k < bn B 3) (hi : i < 32) : bt (pat B k) i = true ↔ inP B k i = true := by
  unfold pat
  rw [bt_orN]
  have h1 := ce_le h
  constructor
  · rintro ⟨j, h2, h3⟩
    split at h3
    · rename_i h4
      rw [bt_bi (by omega) hi] at h3
      subst h3; exact h4
    · rw [b_0] at h3; cases h3
  · intro h2
    exact ⟨i, inP_lt h hk h2, by rw [if_pos h2, bt_bi hi hi]⟩
theorem bt_shal {B : Nat → Int32} (h : WF B) {t i : Nat} (hi : i < 32) : bt (shal B t) i = true ↔ ∃ r, r < bn B 2 ∧ bn B (22 + r) < t ∧ bn B (7 + r) = i := by
  unfold shal
  rw [bt_orN]
  constructor
  · rintro ⟨j, h2, h3⟩
    have h5 := h.cl h2
    split at h3
    · rename_i h4
      rw [bt_bi (by omega) hi] at h3
      exact ⟨j, h2, h4, h3.symm⟩
    · rw [b_0] at h3; cases h3
  · rintro ⟨r, h2, h3, h4⟩
    exact ⟨r, h2, by rw [if_pos h3, h4, bt_bi hi hi]⟩
theorem bt_rset {B : Nat → Int32} (h : WF B) {i : Nat} (hi : i < 32) : bt (rset B) i = true ↔ ∃ r, r < bn B 2 ∧ bn B (7 + r) = i := by
  unfold rset
  rw [bt_orN]
  constructor
  · rintro ⟨j, h2, h3⟩
    have h5 := h.cl h2
    rw [bt_bi (by omega) hi] at h3
    exact ⟨j, h2, h3.symm⟩
  · rintro ⟨r, h2, h4⟩
    exact ⟨r, h2, by rw [h4, bt_bi hi hi]⟩
theorem shal_top {B : Nat → Int32} (h : WF B) {t : Nat} (ht : 10 ≤ t) : shal B t = rset B := b_same (fun i hi => by
  rw [bt_shal h hi, bt_rset h hi]
  constructor
  · rintro ⟨r, h1, _, h2⟩; exact ⟨r, h1, h2⟩
  · rintro ⟨r, h1, h2⟩; exact ⟨r, h1, by have := (h.dp h1).2; omega, h2⟩)
theorem bt_vset {B : Nat → Int32} (h : WF B) {i : Nat} (hi : i < 32) : bt (vset B) i = true ↔ i < bn B 3 ∧ B (61 + i) = 1 := by
  unfold vset
  rw [bt_orN]
  have h1 := h.c.2
  constructor
  · rintro ⟨j, h2, h3⟩
    split at h3
    · rename_i h4
      rw [bt_bi (by omega) hi] at h3
      subst h3; exact ⟨h2, h4⟩
    · rw [b_0] at h3; cases h3
  · rintro ⟨h2, h3⟩
    exact ⟨i, h2, by rw [if_pos h3, bt_bi hi hi]⟩
theorem bt_shown {B : Nat → Int32} (h : WF B) {k i : Nat} (hk : k < bn B 3) (hi : i < 32) : bt (shown B k) i = true ↔ B (61 + k) = 0 ∧ (bt (B (67 + k)) i = true ∨ (inP B k i = true ∧ ∃ r, r < bn B 2 ∧ bn B (22 + r) < bn B (55 + k) ∧ bn B (7 + r) = i)) := by
  unfold shown
  rcases h.ve hk with e | e
  · rw [e, if_neg (by decide), b_or, Bool.or_eq_true, bt_orN]
    constructor
    · rintro (q | ⟨r, h1, h2⟩)
      · exact ⟨rfl, Or.inl q⟩
      · have h5 := h.cl h1
        split at h2
        · rename_i h4
          rw [bt_bi (by omega) hi] at h2
          exact ⟨rfl, Or.inr ⟨by rw [h2]; exact h4.1, r, h1, h4.2, h2.symm⟩⟩
        · rw [b_0] at h2; cases h2
    · rintro ⟨_, q | ⟨q1, r, h1, h2, h3⟩⟩
      · exact Or.inl q
      · exact Or.inr ⟨r, h1, by rw [if_pos ⟨by rw [h3]; exact q1, h2⟩, h3, bt_bi hi hi]⟩
  · rw [e, if_pos rfl, b_0]
    simp
theorem shown_cls {B : Nat → Int32} (h : WF B) {k : Nat} (hk : k < bn B 3) (hv : B (61 + k) = 0) : (pat B k &&& shal B (bn B (55 + k))) ||| B (67 + k) = shown B k := b_same (fun i hi => by
  rw [b_or, b_and, Bool.or_eq_true, Bool.and_eq_true, bt_pat h hk hi, bt_shal h hi, bt_shown h hk hi]
  constructor
  · rintro (⟨q1, q2⟩ | q)
    · exact ⟨hv, Or.inr ⟨q1, q2⟩⟩
    · exact ⟨hv, Or.inl q⟩
  · rintro ⟨_, q | ⟨q1, q2⟩⟩
    · exact Or.inr q
    · exact Or.inl ⟨q1, q2⟩)
theorem bt_pick {f : Nat → Int32} {p : Nat → Prop} {n i : Nat} (hd : ∀ k, Decidable (p k)) : bt (orN (fun k => if p k then f k else 0) n) i = true ↔ ∃ k, k < n ∧ p k ∧ bt (f k) i = true := by
  rw [bt_orN]
  constructor
  · rintro ⟨j, h1, h2⟩
    split at h2
    · rename_i h4; exact ⟨j, h1, h4, h2⟩
    · rw [b_0] at h2; cases h2
  · rintro ⟨j, h1, h2, h3⟩
    exact ⟨j, h1, by rw [if_pos h2]; exact h3⟩
theorem bi_pow : ∀ n, n ≤ 6 → bi n = nI (2 ^ n) := by decide +kernel
theorem pow_le {n : Nat} (h : n ≤ 6) : 2 ^ n ≤ 64 := Nat.pow_le_pow_right (by decide) h
