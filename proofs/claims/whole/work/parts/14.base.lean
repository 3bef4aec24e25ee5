def bt (x : Int32) (i : Nat) : Bool := x.toBitVec.getLsbD i
theorem b_ext {x y : Int32} (h : ∀ i, i < 32 → bt x i = bt y i) : x = y := Int32.toBitVec_inj.mp (BitVec.eq_of_getLsbD_eq (fun i hi => h i hi))
theorem b_or (x y : Int32) (i : Nat) : bt (x ||| y) i = (bt x i || bt y i) := by unfold bt; rw [Int32.toBitVec_or, BitVec.getLsbD_or]
theorem b_and (x y : Int32) (i : Nat) : bt (x &&& y) i = (bt x i && bt y i) := by unfold bt; rw [Int32.toBitVec_and, BitVec.getLsbD_and]
theorem b_xor (x y : Int32) (i : Nat) : bt (x ^^^ y) i = (bt x i ^^ bt y i) := by unfold bt; rw [Int32.toBitVec_xor, BitVec.getLsbD_xor]
theorem b_big {x : Int32} {i : Nat} (h : 32 ≤ i) : bt x i = false := BitVec.getLsbD_of_ge _ _ h
theorem b_255 (i : Nat) : bt 255 i = decide (i < 8) := by
  rcases Nat.lt_or_ge i 32 with h | h
  · exact (by decide +kernel : ∀ i, i < 32 → bt 255 i = decide (i < 8)) i h
  · rw [b_big h, decide_eq_false (by omega)]
theorem b_65535 (i : Nat) : bt 65535 i = decide (i < 16) := by
  rcases Nat.lt_or_ge i 32 with h | h
  · exact (by decide +kernel : ∀ i, i < 32 → bt 65535 i = decide (i < 16)) i h
  · rw [b_big h, decide_eq_false (by omega)]
theorem b_m1 : ∀ i, i < 32 → bt (-1) i = true := by decide +kernel
theorem b_0 (i : Nat) : bt 0 i = false := BitVec.getLsbD_zero
theorem s_l : ∀ n, n < 32 → ((nI n &&& 31).toBitVec.smod 32).toNat = n := by decide +kernel
theorem s_u : ∀ n, n < 32 → (((nI n).toUInt32 &&& Int32.toUInt32 31).toBitVec % 32).toNat = n := by decide +kernel
theorem b_shl (n : Nat) (hn : n < 32) (x : Int32) {i : Nat} (hi : i < 32) : bt (x <<< (nI n &&& 31)) i = (decide (n ≤ i) && bt x (i - n)) := by
  unfold bt
  rw [Int32.toBitVec_shiftLeft]
  show (x.toBitVec <<< ((nI n &&& 31).toBitVec.smod 32).toNat).getLsbD i = _
  rw [s_l n hn, BitVec.getLsbD_shiftLeft]
  rcases Nat.lt_or_ge i n with h | h
  · simp [h, Nat.not_le.mpr h]
  · simp [hi, h, Nat.not_lt.mpr h]
theorem b_ushr (n : Nat) (hn : n < 32) (x : Int32) (i : Nat) : bt ((x.toUInt32 >>> ((nI n).toUInt32 &&& Int32.toUInt32 31)).toInt32) i = bt x (n + i) := by
  show (x.toUInt32 >>> ((nI n).toUInt32 &&& Int32.toUInt32 31)).toBitVec.getLsbD i = x.toUInt32.toBitVec.getLsbD (n + i)
  rw [UInt32.toBitVec_shiftRight]
  show (x.toUInt32.toBitVec >>> (((nI n).toUInt32 &&& Int32.toUInt32 31).toBitVec % 32).toNat).getLsbD i = _
  rw [s_u n hn, BitVec.getLsbD_ushiftRight]
theorem b_sshr (n : Nat) (hn : n < 32) (x : Int32) {i : Nat} (hi : i < 32) : bt (x >>> (nI n &&& 31)) i = if n + i < 32 then bt x (n + i) else bt x 31 := by
  unfold bt
  rw [Int32.toBitVec_shiftRight]
  show (x.toBitVec.sshiftRight ((nI n &&& 31).toBitVec.smod 32).toNat).getLsbD i = _
  rw [s_l n hn, BitVec.getLsbD_sshiftRight, BitVec.msb_eq_getLsbD_last]
  simp [hi]
/-! numbers -/
theorem bt_zero (i : Nat) : bt 0 i = false := b_0 i
theorem bt_one {i : Nat} : bt 1 i = decide (i = 0) := by
  by_cases h : i < 32
  · exact (by decide +kernel : ∀ i, i < 32 → bt 1 i = decide (i = 0)) i h
  · rw [b_big (by omega)]; simp; omega
theorem bt_bit {c i : Nat} (hc : c < 32) (hi : i < 32) : bt ((nI 1) <<< (nI c &&& 31)) i = decide (i = c) := by
  rw [b_shl c hc _ hi]
  have e : nI 1 = 1 := rfl
  rw [e, bt_one]
  by_cases h : c ≤ i
  · by_cases h2 : i = c <;> simp [h, h2] <;> omega
  · simp [h]; omega
/-- the bit of a set that a shift brings down -/
theorem bt_down {x : Int32} {i : Nat} (hi : i < 32) : (x >>> (nI i &&& 31)) &&& nI 1 = if bt x i then 1 else 0 := by
  apply b_ext
  intro j hj
  have e : nI 1 = 1 := rfl
  rw [b_and, b_sshr i hi x hj, e, bt_one]
  by_cases h : j = 0
  · subst h
    rw [if_pos (by omega)]
    cases hb : bt x i
    · rw [Nat.add_zero, hb]; simp [b_0]
    · rw [Nat.add_zero, hb]; simp [bt_one]
  · cases bt x i <;> simp [h, b_0, bt_one]
theorem bt_not {x : Int32} {i : Nat} (hi : i < 32) : bt (x ^^^ (-1)) i = !bt x i := by
  rw [b_xor, b_m1 i hi]; simp
/-- the or of so many -/
def orN (f : Nat → Int32) : Nat → Int32
  | 0 => 0
  | n + 1 => orN f n ||| f n
theorem bt_orN (f : Nat → Int32) (i : Nat) : ∀ n, bt (orN f n) i = true ↔ ∃ j, j < n ∧ bt (f j) i = true
  | 0 => by simp [orN, b_0]
  | n + 1 => by
    rw [orN, b_or, Bool.or_eq_true, bt_orN f i n]
    constructor
    · rintro (⟨j, h1, h2⟩ | h)
      · exact ⟨j, by omega, h2⟩
      · exact ⟨n, by omega, h⟩
    · rintro ⟨j, h1, h2⟩
      rcases Nat.lt_or_ge j n with h | h
      · exact Or.inl ⟨j, h, h2⟩
      · have : j = n := by omega
        subst this
        exact Or.inr h2
theorem orN_congr {f g : Nat → Int32} : ∀ {n : Nat}, (∀ j, j < n → f j = g j) → orN f n = orN g n
  | 0, _ => rfl
  | n + 1, h => by rw [orN, orN, orN_congr (fun j hj => h j (by omega)), h n (by omega)]
theorem i_or0 (x : Int32) : 0 ||| x = x := by apply b_ext; intro i _; rw [b_or, b_0]; rfl
theorem i_and_bit {x : Int32} {c : Nat} (hc : c < 32) : x &&& ((nI 1) <<< (nI c &&& 31)) = if bt x c then (nI 1) <<< (nI c &&& 31) else 0 := by
  apply b_ext
  intro i hi
  rw [b_and, bt_bit hc hi]
  by_cases h : i = c
  · subst h; cases hb : bt x i <;> simp [b_0, bt_bit hc hi]
  · cases hb : bt x c <;> simp [h, b_0, bt_bit hc hi]
/-- how many bits of the first n -/
def ctN (x : Int32) : Nat → Nat
  | 0 => 0
  | n + 1 => ctN x n + (if bt x n then 1 else 0)
theorem ctN_le (x : Int32) : ∀ n, ctN x n ≤ n
  | 0 => Nat.le_refl _
  | n + 1 => by have := ctN_le x n; rw [ctN]; split <;> omega
theorem ctN_top {x : Int32} {n : Nat} (h : ∀ i, n ≤ i → i < 32 → bt x i = false) : ∀ m, n ≤ m → m ≤ 32 → ctN x m = ctN x n := by
  intro m h1 h2
  induction m with
  | zero => have : n = 0 := by omega
            subst this; rfl
  | succ m ih =>
    rcases Nat.lt_or_ge n (m + 1) with h3 | h3
    · rw [ctN, h m (by omega) (by omega), ih (by omega) (by omega)]; simp
    · have : n = m + 1 := by omega
      subst this; rfl
/-! the many ones of a word: Integer.bitCount's sum -/
theorem and_parts {k lo hi ml mh : Nat} (h1 : lo < 2 ^ k) (h2 : ml < 2 ^ k) : (lo + 2 ^ k * hi) &&& (ml + 2 ^ k * mh) = (lo &&& ml) + 2 ^ k * (hi &&& mh) := by
  apply Nat.eq_of_testBit_eq
  intro i
  have h3 : lo &&& ml < 2 ^ k := Nat.and_lt_two_pow lo h2
  rw [Nat.testBit_and, Nat.add_comm lo, Nat.add_comm ml, Nat.add_comm (lo &&& ml)]
  rw [Nat.testBit_two_pow_mul_add _ h1, Nat.testBit_two_pow_mul_add _ h2, Nat.testBit_two_pow_mul_add _ h3]
  split <;> rw [Nat.testBit_and]
/-! ===== Integer.bitCount, by digits ===== -/
def v4 : List Nat → Nat
  | [] => 0
  | d :: ds => d + 4 * v4 ds
theorem v4_and : ∀ (ds ms : List Nat), (∀ d ∈ ds, d < 4) → (∀ m ∈ ms, m < 4) → v4 ds &&& v4 ms = v4 (List.zipWith (fun a b => a &&& b) ds ms)
  | [], ms, _, _ => by simp [v4]
  | d :: ds, [], _, _ => by simp [v4]
  | d :: ds, m :: ms, h1, h2 => by
    have := and_parts (k := 2) (hi := v4 ds) (mh := v4 ms) (h1 d List.mem_cons_self) (h2 m List.mem_cons_self)
    show (d + 4 * v4 ds) &&& (m + 4 * v4 ms) = (d &&& m) + 4 * v4 (List.zipWith _ ds ms)
    rw [← v4_and ds ms (fun d hd => h1 d (List.mem_cons_of_mem _ hd)) (fun m hm => h2 m (List.mem_cons_of_mem _ hm))]
    exact this
def v16 : List Nat → Nat
  | [] => 0
  | d :: ds => d + 16 * v16 ds
theorem v16_and : ∀ (ds ms : List Nat), (∀ d ∈ ds, d < 16) → (∀ m ∈ ms, m < 16) → v16 ds &&& v16 ms = v16 (List.zipWith (fun a b => a &&& b) ds ms)
  | [], ms, _, _ => by simp [v16]
  | d :: ds, [], _, _ => by simp [v16]
  | d :: ds, m :: ms, h1, h2 => by
    have := and_parts (k := 4) (hi := v16 ds) (mh := v16 ms) (h1 d List.mem_cons_self) (h2 m List.mem_cons_self)
    show (d + 16 * v16 ds) &&& (m + 16 * v16 ms) = (d &&& m) + 16 * v16 (List.zipWith _ ds ms)
    rw [← v16_and ds ms (fun d hd => h1 d (List.mem_cons_of_mem _ hd)) (fun m hm => h2 m (List.mem_cons_of_mem _ hm))]
    exact this
theorem d4_1 {a b : Nat} (ha : a < 2) (hb : b < 2) : (a + 2 * b) &&& 1 = a := by
  rcases (show a = 0 ∨ a = 1 by omega) with rfl | rfl <;> rcases (show b = 0 ∨ b = 1 by omega) with rfl | rfl <;> rfl
theorem d4_3 {a : Nat} (ha : a < 4) : a &&& 3 = a := by
  rcases (show a = 0 ∨ a = 1 ∨ a = 2 ∨ a = 3 by omega) with rfl | rfl | rfl | rfl <;> rfl
theorem d16_15 {a : Nat} (ha : a < 16) : a &&& 15 = a := by
  have := Nat.and_two_pow_sub_one_eq_mod a 4
  omega
theorem pop_nat {x a0 a1 a2 a3 a4 a5 a6 a7 a8 a9 a10 a11 a12 a13 a14 b0 b1 b2 b3 b4 b5 b6 b7 b8 b9 b10 b11 b12 b13 b14 : Nat} (ha0 : a0 < 2) (ha1 : a1 < 2) (ha2 : a2 < 2) (ha3 : a3 < 2) (ha4 : a4 < 2) (ha5 : a5 < 2) (ha6 : a6 < 2) (ha7 : a7 < 2) (ha8 : a8 < 2) (ha9 : a9 < 2) (ha10 : a10 < 2) (ha11 : a11 < 2) (ha12 : a12 < 2) (ha13 : a13 < 2) (ha14 : a14 < 2) (hb0 : b0 < 2) (hb1 : b1 < 2) (hb2 : b2 < 2) (hb3 : b3 < 2) (hb4 : b4 < 2) (hb5 : b5 < 2) (hb6 : b6 < 2) (hb7 : b7 < 2) (hb8 : b8 < 2) (hb9 : b9 < 2) (hb10 : b10 < 2) (hb11 : b11 < 2) (hb12 : b12 < 2) (hb13 : b13 < 2) (hb14 : b14 < 2) (hx : x = v4 [a0 + 2 * b0, a1 + 2 * b1, a2 + 2 * b2, a3 + 2 * b3, a4 + 2 * b4, a5 + 2 * b5, a6 + 2 * b6, a7 + 2 * b7, a8 + 2 * b8, a9 + 2 * b9, a10 + 2 * b10, a11 + 2 * b11, a12 + 2 * b12, a13 + 2 * b13, a14 + 2 * b14]) :
    let y1 := x - (x / 2 &&& 1431655765)
    let y2 := (y1 &&& 858993459) + (y1 / 4 &&& 858993459)
    let y3 := (y2 + y2 / 16) &&& 252645135
    let y4 := y3 + y3 / 256
    let y5 := y4 + y4 / 65536
    y1 < 2 ^ 31 ∧ y2 < 2 ^ 31 ∧ y2 + y2 / 16 < 2 ^ 31 ∧ y4 < 2 ^ 31 ∧ y5 < 2 ^ 31 ∧ x / 2 &&& 1431655765 ≤ x ∧ y5 &&& 63 = a0 + a1 + a2 + a3 + a4 + a5 + a6 + a7 + a8 + a9 + a10 + a11 + a12 + a13 + a14 + b0 + b1 + b2 + b3 + b4 + b5 + b6 + b7 + b8 + b9 + b10 + b11 + b12 + b13 + b14 := by
  intro y1 y2 y3 y4 y5
  have e1 : x / 2 = v4 [b0 + 2 * a1, b1 + 2 * a2, b2 + 2 * a3, b3 + 2 * a4, b4 + 2 * a5, b5 + 2 * a6, b6 + 2 * a7, b7 + 2 * a8, b8 + 2 * a9, b9 + 2 * a10, b10 + 2 * a11, b11 + 2 * a12, b12 + 2 * a13, b13 + 2 * a14, b14 + 2 * 0, 0] := by rw [hx]; simp only [v4]; omega
  have e2 : x / 2 &&& 1431655765 = v4 [b0, b1, b2, b3, b4, b5, b6, b7, b8, b9, b10, b11, b12, b13, b14, 0] := by
    rw [e1, show (1431655765 : Nat) = v4 [1, 1, 1, 1, 1, 1, 1, 1, 1, 1, 1, 1, 1, 1, 1, 1] from rfl, v4_and _ _ (by simp only [List.forall_mem_cons]; refine ⟨by omega, by omega, by omega, by omega, by omega, by omega, by omega, by omega, by omega, by omega, by omega, by omega, by omega, by omega, by omega, by omega, fun _ h => by cases h⟩) (by simp only [List.forall_mem_cons]; refine ⟨by omega, by omega, by omega, by omega, by omega, by omega, by omega, by omega, by omega, by omega, by omega, by omega, by omega, by omega, by omega, by omega, fun _ h => by cases h⟩)]
    simp only [List.zipWith]
    rw [d4_1 hb0 ha1, d4_1 hb1 ha2, d4_1 hb2 ha3, d4_1 hb3 ha4, d4_1 hb4 ha5, d4_1 hb5 ha6, d4_1 hb6 ha7, d4_1 hb7 ha8, d4_1 hb8 ha9, d4_1 hb9 ha10, d4_1 hb10 ha11, d4_1 hb11 ha12, d4_1 hb12 ha13, d4_1 hb13 ha14, d4_1 hb14 (by omega)]
    rfl
  have e3 : y1 = v4 [(a0 + b0), (a1 + b1), (a2 + b2), (a3 + b3), (a4 + b4), (a5 + b5), (a6 + b6), (a7 + b7), (a8 + b8), (a9 + b9), (a10 + b10), (a11 + b11), (a12 + b12), (a13 + b13), (a14 + b14), 0] := by
    show x - (x / 2 &&& 1431655765) = _
    rw [e2, hx]
    simp only [v4]
    omega
  have le : x / 2 &&& 1431655765 ≤ x := by rw [e2, hx]; simp only [v4]; omega
  have e4 : y1 &&& 858993459 = v4 [(a0 + b0), 0, (a2 + b2), 0, (a4 + b4), 0, (a6 + b6), 0, (a8 + b8), 0, (a10 + b10), 0, (a12 + b12), 0, (a14 + b14), 0] := by
    rw [e3, show (858993459 : Nat) = v4 [3, 0, 3, 0, 3, 0, 3, 0, 3, 0, 3, 0, 3, 0, 3, 0] from rfl, v4_and _ _ (by simp only [List.forall_mem_cons]; refine ⟨by omega, by omega, by omega, by omega, by omega, by omega, by omega, by omega, by omega, by omega, by omega, by omega, by omega, by omega, by omega, by omega, fun _ h => by cases h⟩) (by simp only [List.forall_mem_cons]; refine ⟨by omega, by omega, by omega, by omega, by omega, by omega, by omega, by omega, by omega, by omega, by omega, by omega, by omega, by omega, by omega, by omega, fun _ h => by cases h⟩)]
    simp only [List.zipWith, Nat.and_zero]
    rw [d4_3 (a := (a0 + b0)) (by omega), d4_3 (a := (a2 + b2)) (by omega), d4_3 (a := (a4 + b4)) (by omega), d4_3 (a := (a6 + b6)) (by omega), d4_3 (a := (a8 + b8)) (by omega), d4_3 (a := (a10 + b10)) (by omega), d4_3 (a := (a12 + b12)) (by omega), d4_3 (a := (a14 + b14)) (by omega)]
    rfl
  have e5 : y1 / 4 = v4 [(a1 + b1), (a2 + b2), (a3 + b3), (a4 + b4), (a5 + b5), (a6 + b6), (a7 + b7), (a8 + b8), (a9 + b9), (a10 + b10), (a11 + b11), (a12 + b12), (a13 + b13), (a14 + b14), 0, 0] := by rw [e3]; simp only [v4]; omega
  have e6 : y1 / 4 &&& 858993459 = v4 [(a1 + b1), 0, (a3 + b3), 0, (a5 + b5), 0, (a7 + b7), 0, (a9 + b9), 0, (a11 + b11), 0, (a13 + b13), 0, 0, 0] := by
    rw [e5, show (858993459 : Nat) = v4 [3, 0, 3, 0, 3, 0, 3, 0, 3, 0, 3, 0, 3, 0, 3, 0] from rfl, v4_and _ _ (by simp only [List.forall_mem_cons]; refine ⟨by omega, by omega, by omega, by omega, by omega, by omega, by omega, by omega, by omega, by omega, by omega, by omega, by omega, by omega, by omega, by omega, fun _ h => by cases h⟩) (by simp only [List.forall_mem_cons]; refine ⟨by omega, by omega, by omega, by omega, by omega, by omega, by omega, by omega, by omega, by omega, by omega, by omega, by omega, by omega, by omega, by omega, fun _ h => by cases h⟩)]
    simp only [List.zipWith, Nat.and_zero]
    rw [d4_3 (a := (a1 + b1)) (by omega), d4_3 (a := (a3 + b3)) (by omega), d4_3 (a := (a5 + b5)) (by omega), d4_3 (a := (a7 + b7)) (by omega), d4_3 (a := (a9 + b9)) (by omega), d4_3 (a := (a11 + b11)) (by omega), d4_3 (a := (a13 + b13)) (by omega)]
    rfl
  have e7 : y2 = v16 [((a0 + b0) + (a1 + b1)), ((a2 + b2) + (a3 + b3)), ((a4 + b4) + (a5 + b5)), ((a6 + b6) + (a7 + b7)), ((a8 + b8) + (a9 + b9)), ((a10 + b10) + (a11 + b11)), ((a12 + b12) + (a13 + b13)), ((a14 + b14) + 0)] := by
    show (y1 &&& 858993459) + (y1 / 4 &&& 858993459) = _
    rw [e4, e6]
    simp only [v4, v16]
    omega
  have e8 : y2 + y2 / 16 = v16 [(((a0 + b0) + (a1 + b1)) + ((a2 + b2) + (a3 + b3))), (((a2 + b2) + (a3 + b3)) + ((a4 + b4) + (a5 + b5))), (((a4 + b4) + (a5 + b5)) + ((a6 + b6) + (a7 + b7))), (((a6 + b6) + (a7 + b7)) + ((a8 + b8) + (a9 + b9))), (((a8 + b8) + (a9 + b9)) + ((a10 + b10) + (a11 + b11))), (((a10 + b10) + (a11 + b11)) + ((a12 + b12) + (a13 + b13))), (((a12 + b12) + (a13 + b13)) + ((a14 + b14) + 0)), (((a14 + b14) + 0) + 0)] := by
    rw [e7]
    simp only [v16]
    omega
  have e9 : y3 = v16 [(((a0 + b0) + (a1 + b1)) + ((a2 + b2) + (a3 + b3))), 0, (((a4 + b4) + (a5 + b5)) + ((a6 + b6) + (a7 + b7))), 0, (((a8 + b8) + (a9 + b9)) + ((a10 + b10) + (a11 + b11))), 0, (((a12 + b12) + (a13 + b13)) + ((a14 + b14) + 0)), 0] := by
    show (y2 + y2 / 16) &&& 252645135 = _
    rw [e8, show (252645135 : Nat) = v16 [15, 0, 15, 0, 15, 0, 15, 0] from rfl, v16_and _ _ (by simp only [List.forall_mem_cons]; refine ⟨by omega, by omega, by omega, by omega, by omega, by omega, by omega, by omega, fun _ h => by cases h⟩) (by simp only [List.forall_mem_cons]; refine ⟨by omega, by omega, by omega, by omega, by omega, by omega, by omega, by omega, fun _ h => by cases h⟩)]
    simp only [List.zipWith, Nat.and_zero]
    rw [d16_15 (a := (((a0 + b0) + (a1 + b1)) + ((a2 + b2) + (a3 + b3)))) (by omega), d16_15 (a := (((a4 + b4) + (a5 + b5)) + ((a6 + b6) + (a7 + b7)))) (by omega), d16_15 (a := (((a8 + b8) + (a9 + b9)) + ((a10 + b10) + (a11 + b11)))) (by omega), d16_15 (a := (((a12 + b12) + (a13 + b13)) + ((a14 + b14) + 0))) (by omega)]
  have e10 : y3 = (((a0 + b0) + (a1 + b1)) + ((a2 + b2) + (a3 + b3))) + 256 * ((((a4 + b4) + (a5 + b5)) + ((a6 + b6) + (a7 + b7))) + 256 * ((((a8 + b8) + (a9 + b9)) + ((a10 + b10) + (a11 + b11))) + 256 * (((a12 + b12) + (a13 + b13)) + ((a14 + b14) + 0)))) := by rw [e9]; simp only [v16]; omega
  have e11 : y4 = ((((a0 + b0) + (a1 + b1)) + ((a2 + b2) + (a3 + b3))) + (((a4 + b4) + (a5 + b5)) + ((a6 + b6) + (a7 + b7)))) + 256 * (((((a4 + b4) + (a5 + b5)) + ((a6 + b6) + (a7 + b7))) + (((a8 + b8) + (a9 + b9)) + ((a10 + b10) + (a11 + b11)))) + 256 * (((((a8 + b8) + (a9 + b9)) + ((a10 + b10) + (a11 + b11))) + (((a12 + b12) + (a13 + b13)) + ((a14 + b14) + 0))) + 256 * (((a12 + b12) + (a13 + b13)) + ((a14 + b14) + 0)))) := by show y3 + y3 / 256 = _; omega
  have e12 : y5 % 64 = a0 + a1 + a2 + a3 + a4 + a5 + a6 + a7 + a8 + a9 + a10 + a11 + a12 + a13 + a14 + b0 + b1 + b2 + b3 + b4 + b5 + b6 + b7 + b8 + b9 + b10 + b11 + b12 + b13 + b14 := by show (y4 + y4 / 65536) % 64 = _; omega
  refine ⟨?_, ?_, ?_, ?_, ?_, le, ?_⟩
  · rw [e3]; simp only [v4]; omega
  · rw [e7]; simp only [v16]; omega
  · rw [e8]; simp only [v16]; omega
  · omega
  · show y4 + y4 / 65536 < _; omega
  · rw [show (63 : Nat) = 2 ^ 6 - 1 from rfl, Nat.and_two_pow_sub_one_eq_mod]
    exact e12
