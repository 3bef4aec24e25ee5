/-! branches -/
theorem yes {c A B : Prop} (hc : c) (a : A) : (c → A) ∧ (¬ c → B) := ⟨fun _ => a, fun n => absurd hc n⟩
theorem no {c A B : Prop} (hc : ¬ c) (b : B) : (c → A) ∧ (¬ c → B) := ⟨fun q => absurd q hc, fun _ => b⟩
theorem nno {c A B : Prop} (hc : c) (b : B) : (¬ c → A) ∧ (¬ ¬ c → B) := ⟨fun q => absurd hc q, fun _ => b⟩
theorem e1 {A B : Prop} (b : B) : ((1 : Int32) = 0 → A) ∧ (¬ ((1 : Int32) = 0) → B) := no (by decide) b
theorem e0 {A B : Prop} (a : A) : ((0 : Int32) = 0 → A) ∧ (¬ ((0 : Int32) = 0) → B) := yes rfl a
theorem f1 {A B : Prop} (a : A) : (¬ (1 : Int32) = 0 → A) ∧ (¬ ¬ (1 : Int32) = 0 → B) := yes (by decide) a
theorem f0 {A B : Prop} (b : B) : (¬ (0 : Int32) = 0 → A) ∧ (¬ ¬ (0 : Int32) = 0 → B) := nno rfl b
/-! numbers -/
theorem nI_eqI {a b : Nat} (ha : a < 2147483648) (hb : b < 2147483648) : nI a = nI b ↔ a = b := nI_eq ha hb
theorem nI_0le {a : Nat} (ha : a < 2147483648) : (0 ≤ nI a) ↔ True := by simp [nI_pos' (n := a) ha]
theorem nI_nlt0 {a : Nat} (ha : a < 2147483648) : (nI a < 0) ↔ False := by simp [nI_pos (n := a) ha]
theorem nI_rem {a d : Nat} : nI a - nI (a / d * d) = nI (a % d) := by
  have h : a / d * d ≤ a := Nat.div_mul_le_self a d
  rw [pk_sub h]
  congr 1
  have := Nat.div_add_mod a d
  rw [Nat.mul_comm] at this
  omega
theorem nI_remm {a d : Nat} : nI a - nI (d * (a / d)) = nI (a % d) := by rw [Nat.mul_comm, nI_rem]
theorem nI_cases (x : Int32) : x.toInt < 0 ∨ ∃ k : Nat, k < 2147483648 ∧ x = nI k ∧ x.toInt = k := by
  by_cases h : x < 0
  · exact Or.inl (Int32.lt_iff_toInt_lt.mp h)
  · obtain ⟨j, h1, h2⟩ := nI_of h
    refine Or.inr ⟨j, h1, h2, ?_⟩
    rw [h2, nI_toInt h1]
theorem i_le {x y : Int32} : x ≤ y ↔ x.toInt ≤ y.toInt := Int32.le_iff_toInt_le
theorem i_lt {x y : Int32} : x < y ↔ x.toInt < y.toInt := Int32.lt_iff_toInt_lt
theorem i_z : (0 : Int32).toInt = 0 := rfl
theorem i_m1 : (-1 : Int32).toInt = -1 := rfl
theorem i_in {x : Int32} {n : Nat} (h : 0 ≤ x.toInt) (h2 : x.toInt < n) : ∃ k, k < n ∧ x = nI k ∧ x.toInt = k := by
  rcases nI_cases x with h3 | ⟨k, _, h4, h5⟩
  · omega
  · exact ⟨k, by omega, h4, h5⟩
theorem i_toI {n : Nat} (h : n < 2147483648) : (nI n).toInt = (n : Int) := nI_toInt h
theorem i_subI {a b : Nat} (ha : a < 1000000) (hb : b < 1000000) : (nI a - nI b).toInt = (a : Int) - b := pk_sub_toInt (by omega) (by omega)
theorem i_gt {x y : Int64} : x > y ↔ y.toInt < x.toInt := Int64.lt_iff_toInt_lt
theorem i_cmp {x y : Int64} : lg_cmp x y < 0 ↔ x.toInt < y.toInt := by
  unfold lg_cmp
  by_cases h : x > y
  · rw [if_pos h]
    rw [i_gt] at h
    exact ⟨fun q => absurd q (by decide), fun q => by omega⟩
  · rw [if_neg h]
    rw [i_gt] at h
    by_cases h2 : x = y
    · rw [if_pos h2, h2]
      exact ⟨fun q => absurd q (by decide), fun q => by omega⟩
    · rw [if_neg h2]
      have h3 : x.toInt ≠ y.toInt := fun q => h2 (Int64.toInt_inj.mp q)
      exact ⟨fun _ => by omega, fun _ => by decide⟩
theorem i_cmp2 {x y : Int64} : 0 < lg_cmp x y ↔ y.toInt < x.toInt := by
  unfold lg_cmp
  by_cases h : x > y
  · rw [if_pos h]
    rw [i_gt] at h
    exact ⟨fun _ => h, fun _ => by decide⟩
  · rw [if_neg h]
    rw [i_gt] at h
    refine ⟨fun q => ?_, fun q => absurd q h⟩
    by_cases h2 : x = y
    · rw [if_pos h2] at q; exact absurd q (by decide)
    · rw [if_neg h2] at q; exact absurd q (by decide)
theorem i_l {x : Int32} : x.toInt64.toInt = x.toInt := Int32.toInt_toInt64 x
/-! the leaves: small methods that only look -/
theorem c101 {d : Nat} {Q : XQ} {S : XS} {I : XI} {J : XJ} {r : XR} {x lo hi : Int32} (hT : lo.toInt ≤ x.toInt → x.toInt ≤ hi.toInt → Q (some (.int 1)) S I J r) (hF : ¬ (lo.toInt ≤ x.toInt ∧ x.toInt ≤ hi.toInt) → Q (some (.int 0)) S I J r) : xcall (d + 1) 101 [.int x, .int lo, .int hi] S I J r Q := by
  refine E101 ⟨fun c => hF ?_, fun c => ⟨fun c2 => hF ?_, fun c2 => hT ?_ ?_⟩⟩ <;> simp only [i_le, i_lt, i_z] at * <;> omega
theorem c221 {d : Nat} {Q : XQ} {S : XS} {I : XI} {J : XJ} {r : XR} {x lo hi : Int64} (hT : lo.toInt ≤ x.toInt → x.toInt ≤ hi.toInt → Q (some (.int 1)) S I J r) (hF : ¬ (lo.toInt ≤ x.toInt ∧ x.toInt ≤ hi.toInt) → Q (some (.int 0)) S I J r) : xcall (d + 1) 221 [.long x, .long lo, .long hi] S I J r Q := by
  refine E221 ⟨fun c => hF ?_, fun c => ⟨fun c2 => hF ?_, fun c2 => hT ?_ ?_⟩⟩ <;> simp only [i_cmp, i_cmp2] at * <;> omega
theorem c34 {d : Nat} {Q : XQ} {S : XS} {I : XI} {J : XJ} {r : XR} {a b : Nat} (ha : a < 2147483648) (hb : b < 2147483648) (hQ : Q (some (.int (nI (min a b)))) S I J r) : xcall (d + 1) 34 [.int (nI a), .int (nI b)] S I J r Q := by
  refine E34 ⟨fun c => ?_, fun c => ?_⟩
  · rw [nI_ltI hb ha] at c; rwa [Nat.min_eq_right (by omega)] at hQ
  · rw [nI_ltI hb ha] at c; rwa [Nat.min_eq_left (by omega)] at hQ
theorem c35 {d : Nat} {Q : XQ} {S : XS} {I : XI} {J : XJ} {r : XR} {a b : Nat} (ha : a < 2147483648) (hb : b < 2147483648) (hQ : Q (some (.int (nI (max a b)))) S I J r) : xcall (d + 1) 35 [.int (nI a), .int (nI b)] S I J r Q := by
  refine E35 ⟨fun c => ?_, fun c => ?_⟩
  · rw [nI_ltI ha hb] at c; rwa [Nat.max_eq_right (by omega)] at hQ
  · rw [nI_ltI ha hb] at c; rwa [Nat.max_eq_left (by omega)] at hQ
theorem c250 {d : Nat} {Q : XQ} {S : XS} {I : XI} {J : XJ} {r : XR} {x : Int32} {k : Nat} (hk : k < 32) (hT : bt x k = true → Q (some (.int 1)) S I J r) (hF : bt x k = false → Q (some (.int 0)) S I J r) : xcall (d + 1) 250 [.int x, .int (nI k)] S I J r Q := by
  refine E250 ?_
  rw [bt_down hk]
  cases h : bt x k
  · exact yes (by decide) (hF h)
  · exact nno rfl (hT h)
theorem k282 {d : Nat} {Q : XQ} {S : XS} {I : XI} {J : XJ} {r : XR} {cu su : Nat} {x : Int32} (hQ : Q (some (.int (nI (ctN x 30)))) S I J r) : ∀ j i, i + j = 30 → xrun z0 (xcall (d + 1)) Q 282 4 [.int x, .int (nI (ctN x i)), .int (nI i)] [] S I J r cu su
  | 0, i, h => by
    have : i = 30 := by omega
    subst this
    exact K282_4 (yes (by decide) hQ)
  | j + 1, i, h => by
    refine K282_4 (no (by { simp (disch := omega) only [nI_add, nI_1, pk_mul, nI_rem, nI_remm, pk_sub, pk_div, nI_clamp, nI_leI, nI_ltI, nI_eqI, nI_l, nI_0le, nI_nlt0]; omega }) (c250 (by omega) (fun q => K282_16 (e1 ?_)) (fun q => K282_16 (e0 ?_))))
    · have := k282 (d := d) (cu := cu) (su := su) hQ j (i + 1) (by omega)
      rw [ctN, q, if_pos rfl] at this
      rw [nI_add, nI_add]; exact this
    · have := k282 (d := d) (cu := cu) (su := su) hQ j (i + 1) (by omega)
      rw [ctN, q, if_neg (by decide)] at this
      rw [nI_add, nI_add]; exact this
theorem c282 {d : Nat} {Q : XQ} {S : XS} {I : XI} {J : XJ} {r : XR} {x : Int32} (hQ : Q (some (.int (nI (ctN x 30)))) S I J r) : xcall (d + 2) 282 [.int x] S I J r Q := E282 (k282 hQ 30 0 rfl)
/-! Integer.bitCount -/
def cN (X : Nat) : Nat → Nat
  | 0 => 0
  | n + 1 => cN X n + X / 2 ^ n % 2
theorem ctN_cN (x : Int32) : ∀ n, ctN x n = cN x.toBitVec.toNat n
  | 0 => rfl
  | n + 1 => by
    rw [ctN, cN, ctN_cN x n]
    congr 1
    have h : bt x n = decide (x.toBitVec.toNat / 2 ^ n % 2 = 1) := by
      show x.toBitVec.toNat.testBit n = _
      rw [Nat.testBit_eq_decide_div_mod_eq]
    rw [h]
    have := Nat.mod_two_eq_zero_or_one (x.toBitVec.toNat / 2 ^ n)
    rcases this with q | q <;> rw [q] <;> rfl
theorem cN_8 (X m : Nat) : cN X (8 + m) = cN X 8 + cN (X / 256) m := by
  induction m with
  | zero => rfl
  | succ m ih =>
    rw [← Nat.add_assoc, cN, ih, cN, Nat.add_assoc]
    congr 2
    rw [Nat.pow_add, ← Nat.div_div_eq_div_mul]
theorem cN_pcb (X : Nat) : cN X 8 = pcb (X % 256) := by
  simp only [cN, pcb]
  omega
theorem cN_32 {a b c e : Nat} (ha : a < 256) (hb : b < 256) (hc : c < 256) (he : e < 256) : cN (a + 256 * (b + 256 * (c + 256 * e))) 32 = pcb a + pcb b + pcb c + pcb e := by
  rw [show (32 : Nat) = 8 + (8 + (8 + 8)) from rfl, cN_8, cN_8, cN_8, cN_pcb, cN_pcb, cN_pcb, cN_pcb]
  rw [show (a + 256 * (b + 256 * (c + 256 * e))) / 256 = b + 256 * (c + 256 * e) by omega, show (b + 256 * (c + 256 * e)) / 256 = c + 256 * e by omega, show (c + 256 * e) / 256 = e by omega]
  rw [show (a + 256 * (b + 256 * (c + 256 * e))) % 256 = a by omega, show (b + 256 * (c + 256 * e)) % 256 = b by omega, show (c + 256 * e) % 256 = c by omega, Nat.mod_eq_of_lt he]
  omega
theorem t_sub {a b : Int32} (h : b.toBitVec.toNat ≤ a.toBitVec.toNat) : (a - b).toBitVec.toNat = a.toBitVec.toNat - b.toBitVec.toNat := by
  rw [Int32.toBitVec_sub, BitVec.toNat_sub]
  have := a.toBitVec.isLt
  have := b.toBitVec.isLt
  omega
theorem t_add {a b : Int32} (h : a.toBitVec.toNat + b.toBitVec.toNat < 4294967296) : (a + b).toBitVec.toNat = a.toBitVec.toNat + b.toBitVec.toNat := by
  rw [Int32.toBitVec_add, BitVec.toNat_add]
  omega
theorem t_and {a b : Int32} : (a &&& b).toBitVec.toNat = a.toBitVec.toNat &&& b.toBitVec.toNat := by rw [Int32.toBitVec_and, BitVec.toNat_and]
theorem t_sr {a : Int32} {k : Nat} (hk : k < 32) : ((a.toUInt32 >>> ((nI k).toUInt32 &&& Int32.toUInt32 31)).toInt32).toBitVec.toNat = a.toBitVec.toNat / 2 ^ k := by
  show (a.toUInt32 >>> ((nI k).toUInt32 &&& Int32.toUInt32 31)).toBitVec.toNat = _
  rw [UInt32.toBitVec_shiftRight]
  show (a.toUInt32.toBitVec >>> (((nI k).toUInt32 &&& Int32.toUInt32 31).toBitVec % 32).toNat).toNat = _
  rw [s_u k hk, BitVec.toNat_ushiftRight, Nat.shiftRight_eq_div_pow]
  rfl
theorem t_nI {n : Nat} (h : n < 4294967296) : (nI n).toBitVec.toNat = n := pk_tn h
theorem pop_i {x y1 y2 y3 y4 y5 : Int32} (h1 : y1 = x - ((x.toUInt32 >>> ((nI 1).toUInt32 &&& Int32.toUInt32 31)).toInt32 &&& nI 1431655765)) (h2 : y2 = (y1 &&& nI 858993459) + ((y1.toUInt32 >>> ((nI 2).toUInt32 &&& Int32.toUInt32 31)).toInt32 &&& nI 858993459)) (h3 : y3 = (y2 + (y2.toUInt32 >>> ((nI 4).toUInt32 &&& Int32.toUInt32 31)).toInt32) &&& nI 252645135) (h4 : y4 = y3 + (y3.toUInt32 >>> ((nI 8).toUInt32 &&& Int32.toUInt32 31)).toInt32) (h5 : y5 = y4 + (y4.toUInt32 >>> ((nI 16).toUInt32 &&& Int32.toUInt32 31)).toInt32) : y5 &&& nI 63 = nI (ctN x 32) := by
  have hX := x.toBitVec.isLt
  have hx : x.toBitVec.toNat = x.toBitVec.toNat % 256 + 256 * (x.toBitVec.toNat / 256 % 256 + 256 * (x.toBitVec.toNat / 65536 % 256 + 256 * (x.toBitVec.toNat / 16777216))) := by omega
  have key := pop_nat (a := x.toBitVec.toNat % 256) (b := x.toBitVec.toNat / 256 % 256) (c := x.toBitVec.toNat / 65536 % 256) (e := x.toBitVec.toNat / 16777216) (by omega) (by omega) (by omega) (by omega) hx rfl rfl rfl rfl rfl
  have hc := cN_32 (a := x.toBitVec.toNat % 256) (b := x.toBitVec.toNat / 256 % 256) (c := x.toBitVec.toNat / 65536 % 256) (e := x.toBitVec.toNat / 16777216) (by omega) (by omega) (by omega) (by omega)
  rw [← hx] at hc
  rw [← hc, ← ctN_cN] at key
  obtain ⟨k1, k2, k3, k4, k5, k6, k7⟩ := key
  have q1 : y1.toBitVec.toNat = x.toBitVec.toNat - (x.toBitVec.toNat / 2 &&& 1431655765) := by
    have e : ((x.toUInt32 >>> ((nI 1).toUInt32 &&& Int32.toUInt32 31)).toInt32 &&& nI 1431655765).toBitVec.toNat = x.toBitVec.toNat / 2 &&& 1431655765 := by rw [t_and, t_sr (by decide), t_nI (by decide)]
    rw [h1, t_sub (by rw [e]; exact k6), e]
  have q2 : y2.toBitVec.toNat = (y1.toBitVec.toNat &&& 858993459) + (y1.toBitVec.toNat / 4 &&& 858993459) := by
    have e : (y1 &&& nI 858993459).toBitVec.toNat = y1.toBitVec.toNat &&& 858993459 := by rw [t_and, t_nI (by decide)]
    have e2 : ((y1.toUInt32 >>> ((nI 2).toUInt32 &&& Int32.toUInt32 31)).toInt32 &&& nI 858993459).toBitVec.toNat = y1.toBitVec.toNat / 4 &&& 858993459 := by rw [t_and, t_sr (by decide), t_nI (by decide)]
    rw [h2, t_add (by rw [e, e2, q1]; exact k2), e, e2]
  rw [← q1] at k1 k2 k3 k4 k5 k7
  rw [← q2] at k2 k3 k4 k5 k7
  have q3 : y3.toBitVec.toNat = (y2.toBitVec.toNat + y2.toBitVec.toNat / 16) &&& 252645135 := by
    have e : ((y2.toUInt32 >>> ((nI 4).toUInt32 &&& Int32.toUInt32 31)).toInt32).toBitVec.toNat = y2.toBitVec.toNat / 16 := by rw [t_sr (by decide)]
    rw [h3, t_and, t_nI (by decide), t_add (by rw [e]; exact k3), e]
  rw [← q3] at k4 k5 k7
  have q4 : y4.toBitVec.toNat = y3.toBitVec.toNat + y3.toBitVec.toNat / 256 := by
    have e : ((y3.toUInt32 >>> ((nI 8).toUInt32 &&& Int32.toUInt32 31)).toInt32).toBitVec.toNat = y3.toBitVec.toNat / 256 := by rw [t_sr (by decide)]
    rw [h4, t_add (by rw [e]; exact k4), e]
  rw [← q4] at k5 k7
  have q5 : y5.toBitVec.toNat = y4.toBitVec.toNat + y4.toBitVec.toNat / 65536 := by
    have e : ((y4.toUInt32 >>> ((nI 16).toUInt32 &&& Int32.toUInt32 31)).toInt32).toBitVec.toNat = y4.toBitVec.toNat / 65536 := by rw [t_sr (by decide)]
    rw [h5, t_add (by rw [e]; exact k5), e]
  rw [← q5] at k7
  have hle := ctN_le x 32
  apply Int32.toBitVec_inj.mp
  apply BitVec.eq_of_toNat_eq
  rw [t_and, t_nI (by decide), t_nI (by omega)]
  exact k7
theorem c78 {d : Nat} {Q : XQ} {S : XS} {I : XI} {J : XJ} {r : XR} {x : Int32} (hQ : Q (some (.int (nI (ctN x 32)))) S I J r) : xcall (d + 1) 78 [.int x] S I J r Q := by
  refine E78 ?_
  have h := pop_i (x := x) rfl rfl rfl rfl rfl
  rw [h]
  exact hQ
