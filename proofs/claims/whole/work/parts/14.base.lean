def bt (x : Int32) (i : Nat) : Bool := x.toBitVec.getLsbD i
theorem b_ext {x y : Int32} (h : ∀ i, i < 32 → bt x i = bt y i) : x = y := Int32.toBitVec_inj.mp (BitVec.eq_of_getLsbD_eq (fun i hi => h i hi))
theorem b_or (x y : Int32) (i : Nat) : bt (x ||| y) i = (bt x i || bt y i) := by unfold bt; rw [Int32.toBitVec_or, BitVec.getLsbD_or]
theorem b_and (x y : Int32) (i : Nat) : bt (x &&& y) i = (bt x i && bt y i) := by unfold bt; rw [Int32.toBitVec_and, BitVec.getLsbD_and]
theorem b_xor (x y : Int32) (i : Nat) : bt (x ^^^ y) i = (bt x i ^^ bt y i) := by unfold bt; rw [Int32.toBitVec_xor, BitVec.getLsbD_xor]
theorem b_big {x : Int32} {i : Nat} (h : 32 ≤ i) : bt x i = false := BitVec.getLsbD_of_ge _ _ h
theorem b_255 (i : Nat) : bt 255 i = decide (i < 8) := by
  rcases Nat.lt_or_ge i 32 with h | h
  · exact (by decide +kernel : ∀ i, i < 32 → bt 255 i = decide (i < 8)) i h
  · rw [b_big h, decide_eq_false (by omega)]
theorem b_65535 (i : Nat) : bt 65535 i = decide (i < 16) := by
  rcases Nat.lt_or_ge i 32 with h | h
  · exact (by decide +kernel : ∀ i, i < 32 → bt 65535 i = decide (i < 16)) i h
  · rw [b_big h, decide_eq_false (by omega)]
theorem b_m1 : ∀ i, i < 32 → bt (-1) i = true := by decide +kernel
theorem b_0 (i : Nat) : bt 0 i = false := BitVec.getLsbD_zero
theorem s_l : ∀ n, n < 32 → ((nI n &&& 31).toBitVec.smod 32).toNat = n := by decide +kernel
theorem s_u : ∀ n, n < 32 → (((nI n).toUInt32 &&& Int32.toUInt32 31).toBitVec % 32).toNat = n := by decide +kernel
theorem b_shl (n : Nat) (hn : n < 32) (x : Int32) {i : Nat} (hi : i < 32) : bt (x <<< (nI n &&& 31)) i = (decide (n ≤ i) && bt x (i - n)) := by
  unfold bt
  rw [Int32.toBitVec_shiftLeft]
  show (x.toBitVec <<< ((nI n &&& 31).toBitVec.smod 32).toNat).getLsbD i = _
  rw [s_l n hn, BitVec.getLsbD_shiftLeft]
  rcases Nat.lt_or_ge i n with h | h
  · simp [h, Nat.not_le.mpr h]
  · simp [hi, h, Nat.not_lt.mpr h]
theorem b_ushr (n : Nat) (hn : n < 32) (x : Int32) (i : Nat) : bt ((x.toUInt32 >>> ((nI n).toUInt32 &&& Int32.toUInt32 31)).toInt32) i = bt x (n + i) := by
  show (x.toUInt32 >>> ((nI n).toUInt32 &&& Int32.toUInt32 31)).toBitVec.getLsbD i = x.toUInt32.toBitVec.getLsbD (n + i)
  rw [UInt32.toBitVec_shiftRight]
  show (x.toUInt32.toBitVec >>> (((nI n).toUInt32 &&& Int32.toUInt32 31).toBitVec % 32).toNat).getLsbD i = _
  rw [s_u n hn, BitVec.getLsbD_ushiftRight]
theorem b_sshr (n : Nat) (hn : n < 32) (x : Int32) {i : Nat} (hi : i < 32) : bt (x >>> (nI n &&& 31)) i = if n + i < 32 then bt x (n + i) else bt x 31 := by
  unfold bt
  rw [Int32.toBitVec_shiftRight]
  show (x.toBitVec.sshiftRight ((nI n &&& 31).toBitVec.smod 32).toNat).getLsbD i = _
  rw [s_l n hn, BitVec.getLsbD_sshiftRight, BitVec.msb_eq_getLsbD_last]
  simp [hi]
/-! numbers -/
theorem bt_zero (i : Nat) : bt 0 i = false := b_0 i
theorem bt_one {i : Nat} : bt 1 i = decide (i = 0) := by
  by_cases h : i < 32
  · exact (by decide +kernel : ∀ i, i < 32 → bt 1 i = decide (i = 0)) i h
  · rw [b_big (by omega)]; simp; omega
theorem bt_bit {c i : Nat} (hc : c < 32) (hi : i < 32) : bt ((nI 1) <<< (nI c &&& 31)) i = decide (i = c) := by
  rw [b_shl c hc _ hi]
  have e : nI 1 = 1 := rfl
  rw [e, bt_one]
  by_cases h : c ≤ i
  · by_cases h2 : i = c <;> simp [h, h2] <;> omega
  · simp [h]; omega
/-- the bit of a set that a shift brings down -/
theorem bt_down {x : Int32} {i : Nat} (hi : i < 32) : (x >>> (nI i &&& 31)) &&& nI 1 = if bt x i then 1 else 0 := by
  apply b_ext
  intro j hj
  have e : nI 1 = 1 := rfl
  rw [b_and, b_sshr i hi x hj, e, bt_one]
  by_cases h : j = 0
  · subst h
    rw [if_pos (by omega)]
    cases hb : bt x i
    · simp [b_0]
    · simp [bt_one]
  · cases bt x i <;> simp [h, b_0, bt_one]
theorem bt_not {x : Int32} {i : Nat} (hi : i < 32) : bt (x ^^^ (-1)) i = !bt x i := by
  rw [b_xor, b_m1 i hi]; simp
/-- the or of so many -/
def orN (f : Nat → Int32) : Nat → Int32
  | 0 => 0
  | n + 1 => orN f n ||| f n
theorem bt_orN (f : Nat → Int32) (i : Nat) : ∀ n, bt (orN f n) i = true ↔ ∃ j, j < n ∧ bt (f j) i = true
  | 0 => by simp [orN, b_0]
  | n + 1 => by
    rw [orN, b_or, Bool.or_eq_true, bt_orN f i n]
    constructor
    · rintro (⟨j, h1, h2⟩ | h)
      · exact ⟨j, by omega, h2⟩
      · exact ⟨n, by omega, h⟩
    · rintro ⟨j, h1, h2⟩
      rcases Nat.lt_or_ge j n with h | h
      · exact Or.inl ⟨j, h, h2⟩
      · have : j = n := by omega
        subst this
        exact Or.inr h2
theorem orN_congr {f g : Nat → Int32} : ∀ {n : Nat}, (∀ j, j < n → f j = g j) → orN f n = orN g n
  | 0, _ => rfl
  | n + 1, h => by rw [orN, orN, orN_congr (fun j hj => h j (by omega)), h n (by omega)]
theorem i_or0 (x : Int32) : 0 ||| x = x := by apply b_ext; intro i _; rw [b_or, b_0]; rfl
theorem i_and_bit {x : Int32} {c : Nat} (hc : c < 32) : x &&& ((nI 1) <<< (nI c &&& 31)) = if bt x c then (nI 1) <<< (nI c &&& 31) else 0 := by
  apply b_ext
  intro i hi
  rw [b_and, bt_bit hc hi]
  by_cases h : i = c
  · subst h; cases hb : bt x i <;> simp [b_0, bt_bit hc hi]
  · cases hb : bt x c <;> simp [h, b_0, bt_bit hc hi]
/-- how many bits of the first n -/
def ctN (x : Int32) : Nat → Nat
  | 0 => 0
  | n + 1 => ctN x n + (if bt x n then 1 else 0)
theorem ctN_le (x : Int32) : ∀ n, ctN x n ≤ n
  | 0 => Nat.le_refl _
  | n + 1 => by have := ctN_le x n; rw [ctN]; split <;> omega
theorem ctN_top {x : Int32} {n : Nat} (h : ∀ i, n ≤ i → i < 32 → bt x i = false) : ∀ m, n ≤ m → m ≤ 32 → ctN x m = ctN x n := by
  intro m h1 h2
  induction m with
  | zero => have : n = 0 := by omega
            subst this; rfl
  | succ m ih =>
    rcases Nat.lt_or_ge n (m + 1) with h3 | h3
    · rw [ctN, h m (by omega) (by omega), ih (by omega) (by omega)]; simp
    · have : n = m + 1 := by omega
      subst this; rfl
/-! the many ones of a word: Integer.bitCount's sum -/
theorem and_parts {k lo hi ml mh : Nat} (h1 : lo < 2 ^ k) (h2 : ml < 2 ^ k) : (lo + 2 ^ k * hi) &&& (ml + 2 ^ k * mh) = (lo &&& ml) + 2 ^ k * (hi &&& mh) := by
  apply Nat.eq_of_testBit_eq
  intro i
  have h3 : lo &&& ml < 2 ^ k := Nat.and_lt_two_pow lo h2
  rw [Nat.testBit_and, Nat.add_comm lo, Nat.add_comm ml, Nat.add_comm (lo &&& ml)]
  rw [Nat.testBit_two_pow_mul_add _ h1, Nat.testBit_two_pow_mul_add _ h2, Nat.testBit_two_pow_mul_add _ h3]
  split <;> rw [Nat.testBit_and]
/-! ===== Integer.bitCount, byte by byte ===== -/
def p1 (b : Nat) : Nat := b - (b / 2 &&& 85)
def p2 (b : Nat) : Nat := (p1 b &&& 51) + (p1 b / 4 &&& 51)
def p3 (b : Nat) : Nat := (p2 b + p2 b / 16) % 16
def pcb (b : Nat) : Nat := b % 2 + b / 2 % 2 + b / 4 % 2 + b / 8 % 2 + b / 16 % 2 + b / 32 % 2 + b / 64 % 2 + b / 128 % 2
theorem p_all : ∀ b, b < 256 → (b / 2 &&& 85 ≤ b ∧ p1 b < 256 ∧ p2 b % 16 ≤ 4 ∧ p2 b / 16 ≤ 4 ∧ p3 b = pcb b ∧ pcb b ≤ 8) := by decide +kernel
theorem p_a : ∀ b, b < 256 → ((b / 2 + 128) &&& 85 = b / 2 &&& 85) := by decide +kernel
theorem p_b : ∀ b, b < 256 → ((b / 4 + 64) &&& 51 = b / 4 &&& 51 ∧ (b / 4 + 128) &&& 51 = b / 4 &&& 51 ∧ (b / 4 + 192) &&& 51 = b / 4 &&& 51) := by decide +kernel
theorem p_c : ∀ b, b < 256 → b &&& 15 = b % 16 := by decide +kernel
theorem st_a {b X M : Nat} (hb : b < 256) : (b + 256 * X) / 2 &&& (85 + 256 * M) = (b / 2 &&& 85) + 256 * (X / 2 &&& M) := by
  have h := and_parts (k := 8) (lo := b / 2 + 128 * (X % 2)) (hi := X / 2) (ml := 85) (mh := M) (by omega) (by decide)
  have e : (b + 256 * X) / 2 = b / 2 + 128 * (X % 2) + 2 ^ 8 * (X / 2) := by omega
  have e2 : (b / 2 + 128 * (X % 2)) &&& 85 = b / 2 &&& 85 := by
    rcases (show X % 2 = 0 ∨ X % 2 = 1 by omega) with q | q <;> rw [q]
    · rfl
    · exact p_a b hb
  rw [e2] at h
  rw [e]
  exact h
theorem st_b {b X M : Nat} (hb : b < 256) : (b + 256 * X) / 4 &&& (51 + 256 * M) = (b / 4 &&& 51) + 256 * (X / 4 &&& M) := by
  have h := and_parts (k := 8) (lo := b / 4 + 64 * (X % 4)) (hi := X / 4) (ml := 51) (mh := M) (by omega) (by decide)
  have e : (b + 256 * X) / 4 = b / 4 + 64 * (X % 4) + 2 ^ 8 * (X / 4) := by omega
  have e2 : (b / 4 + 64 * (X % 4)) &&& 51 = b / 4 &&& 51 := by
    rcases (show X % 4 = 0 ∨ X % 4 = 1 ∨ X % 4 = 2 ∨ X % 4 = 3 by omega) with q | q | q | q <;> rw [q]
    · rfl
    · exact (p_b b hb).1
    · exact (p_b b hb).2.1
    · exact (p_b b hb).2.2
  rw [e2] at h
  rw [e]
  exact h
theorem st_c {b X m M : Nat} (hb : b < 256) (hm : m < 256) : (b + 256 * X) &&& (m + 256 * M) = (b &&& m) + 256 * (X &&& M) := and_parts (k := 8) hb hm
theorem lt4 {a b c e : Nat} (ha : a < 256) (hb : b < 256) (hc : c < 256) (he : e < 256) : a + 256 * (b + 256 * (c + 256 * e)) < 2 ^ 32 := by omega
theorem l_sub {a b c e p q u v : Nat} (ha : p ≤ a) (hb : q ≤ b) (hc : u ≤ c) (he : v ≤ e) : p + 256 * (q + 256 * (u + 256 * v)) ≤ a + 256 * (b + 256 * (c + 256 * e)) ∧ a + 256 * (b + 256 * (c + 256 * e)) - (p + 256 * (q + 256 * (u + 256 * v))) = (a - p) + 256 * ((b - q) + 256 * ((c - u) + 256 * (e - v))) := by omega
theorem l_add {a b c e p q u v : Nat} : (a + 256 * (b + 256 * (c + 256 * e))) + (p + 256 * (q + 256 * (u + 256 * v))) = (a + p) + 256 * ((b + q) + 256 * ((c + u) + 256 * (e + v))) := by omega
theorem l_16 {a b c e : Nat} : (a + 256 * (b + 256 * (c + 256 * e))) + (a + 256 * (b + 256 * (c + 256 * e))) / 16 = (a + a / 16 + 16 * (b % 16)) + 256 * ((b + b / 16 + 16 * (c % 16)) + 256 * ((c + c / 16 + 16 * (e % 16)) + 256 * (e + e / 16))) := by omega
theorem l_b {a b : Nat} (h1 : a % 16 ≤ 4) (h2 : a / 16 ≤ 4) (h3 : b % 16 ≤ 4) : a + a / 16 + 16 * (b % 16) < 256 ∧ (a + a / 16 + 16 * (b % 16)) % 16 = (a + a / 16) % 16 := by omega
theorem l_b2 {a : Nat} (h1 : a % 16 ≤ 4) (h2 : a / 16 ≤ 4) : a < 256 ∧ a + a / 16 < 256 := by omega
theorem l_256 {a b c e : Nat} (ha : a ≤ 8) (hb : b ≤ 8) (hc : c ≤ 8) (he : e ≤ 8) : (a + 256 * (b + 256 * (c + 256 * e))) + (a + 256 * (b + 256 * (c + 256 * e))) / 256 = (a + b) + 256 * ((b + c) + 256 * ((c + e) + 256 * e)) := by omega
theorem l_64 {a b c e : Nat} (ha : a ≤ 8) (hb : b ≤ 8) (hc : c ≤ 8) (he : e ≤ 8) : ((a + b) + 256 * ((b + c) + 256 * ((c + e) + 256 * e)) + ((a + b) + 256 * ((b + c) + 256 * ((c + e) + 256 * e))) / 65536) % 64 = a + b + c + e ∧ (a + b) + 256 * ((b + c) + 256 * ((c + e) + 256 * e)) + ((a + b) + 256 * ((b + c) + 256 * ((c + e) + 256 * e))) / 65536 < 2 ^ 32 ∧ (a + b) + 256 * ((b + c) + 256 * ((c + e) + 256 * e)) < 2 ^ 32 := by
  have h : ((a + b) + 256 * ((b + c) + 256 * ((c + e) + 256 * e))) / 65536 = (c + e) + 256 * e := by omega
  rw [h]
  refine ⟨?_, ?_, ?_⟩ <;> omega
theorem pop_nat {a b c e : Nat} (ha : a < 256) (hb : b < 256) (hc : c < 256) (he : e < 256) {x y1 y2 y3 y4 y5 : Nat} (hx : x = a + 256 * (b + 256 * (c + 256 * e))) (h1 : y1 = x - (x / 2 &&& 1431655765)) (h2 : y2 = (y1 &&& 858993459) + (y1 / 4 &&& 858993459)) (h3 : y3 = (y2 + y2 / 16) &&& 252645135) (h4 : y4 = y3 + y3 / 256) (h5 : y5 = y4 + y4 / 65536) :
    y1 < 2 ^ 32 ∧ y2 < 2 ^ 32 ∧ y2 + y2 / 16 < 2 ^ 32 ∧ y4 < 2 ^ 32 ∧ y5 < 2 ^ 32 ∧ x / 2 &&& 1431655765 ≤ x ∧ y5 &&& 63 = pcb a + pcb b + pcb c + pcb e := by
  obtain ⟨a1, a2, a3, a4, a5, a6⟩ := p_all a ha
  obtain ⟨b1, b2, b3, b4, b5, b6⟩ := p_all b hb
  obtain ⟨c1, c2, c3, c4, c5, c6⟩ := p_all c hc
  obtain ⟨d1, d2, d3, d4, d5, d6⟩ := p_all e he
  have m1 : (1431655765 : Nat) = 85 + 256 * (85 + 256 * (85 + 256 * 85)) := by decide
  have m2 : (858993459 : Nat) = 51 + 256 * (51 + 256 * (51 + 256 * 51)) := by decide
  have m3 : (252645135 : Nat) = 15 + 256 * (15 + 256 * (15 + 256 * 15)) := by decide
  have e1 : x / 2 &&& 1431655765 = (a / 2 &&& 85) + 256 * ((b / 2 &&& 85) + 256 * ((c / 2 &&& 85) + 256 * (e / 2 &&& 85))) := by
    rw [hx, m1, st_a ha, st_a hb, st_a hc]
  have e2 := l_sub a1 b1 c1 d1
  rw [← e1, ← hx, ← h1] at e2
  have e3 : y2 = p2 a + 256 * (p2 b + 256 * (p2 c + 256 * p2 e)) := by
    rw [h2, e2.2, m2]
    show (p1 a + 256 * (p1 b + 256 * (p1 c + 256 * p1 e)) &&& _) + ((p1 a + 256 * (p1 b + 256 * (p1 c + 256 * p1 e))) / 4 &&& _) = _
    rw [st_b a2, st_b b2, st_b c2, st_c a2 (by decide), st_c b2 (by decide), st_c c2 (by decide), l_add]
    rfl
  have e4 : y2 + y2 / 16 = (p2 a + p2 a / 16 + 16 * (p2 b % 16)) + 256 * ((p2 b + p2 b / 16 + 16 * (p2 c % 16)) + 256 * ((p2 c + p2 c / 16 + 16 * (p2 e % 16)) + 256 * (p2 e + p2 e / 16))) := by rw [e3]; exact l_16
  have n1 := l_b a3 a4 b3
  have n2 := l_b b3 b4 c3
  have n3 := l_b c3 c4 d3
  have n4 := l_b2 d3 d4
  have e5 : y3 = pcb a + 256 * (pcb b + 256 * (pcb c + 256 * pcb e)) := by
    rw [h3, e4, m3, st_c n1.1 (by decide), st_c n2.1 (by decide), st_c n3.1 (by decide), p_c _ n1.1, p_c _ n2.1, p_c _ n3.1, p_c _ n4.2, n1.2, n2.2, n3.2]
    show p3 a + 256 * (p3 b + 256 * (p3 c + 256 * p3 e)) = _
    rw [a5, b5, c5, d5]
  have e6 : y4 = (pcb a + pcb b) + 256 * ((pcb b + pcb c) + 256 * ((pcb c + pcb e) + 256 * pcb e)) := by rw [h4, e5]; exact l_256 a6 b6 c6 d6
  have e7 := l_64 a6 b6 c6 d6
  rw [← e6, ← h5] at e7
  refine ⟨by rw [e2.2]; exact lt4 a2 b2 c2 d2, by rw [e3]; exact lt4 (l_b2 a3 a4).1 (l_b2 b3 b4).1 (l_b2 c3 c4).1 n4.1, by rw [e4]; exact lt4 n1.1 n2.1 n3.1 n4.2, e7.2.2, e7.2.1, e2.1, ?_⟩
  rw [show (63 : Nat) = 2 ^ 6 - 1 from by decide, Nat.and_two_pow_sub_one_eq_mod]
  exact e7.1
