def S0 : XS := [(9, 0), (2, 0), (101, 16), (6, 0), (104, 4), (101, 60), (101, 60), (101, 60), (101, 60), (100, 4), (100, 4), (102, 900), (1, 0), (5, 0), (102, 900), (8, 0), (5, 0), (102, 900), (100, 3), (4, 0), (100, 30), (100, 31), (3, 0), (4, 0), (100, 30), (100, 31), (100, 60), (100, 5), (0, 0), (100, 15), (100, 15), (100, 11), (101, 6), (100, 6), (100, 6), (100, 6), (100, 6), (100, 6), (100, 6), (7, 0), (100, 60), (100, 60), (100, 60), (100, 60), (100, 60), (100, 60), (0, 0), (100, 15), (100, 15), (100, 11), (101, 6), (100, 6), (100, 6), (100, 6), (100, 6), (100, 6), (100, 6), (7, 0), (100, 60), (100, 60), (100, 60), (100, 60), (100, 60), (100, 60), (103, 3), (10, 0), (100, 4), (100, 4), (101, 240), (102, 900), (100, 1725), (100, 73), (101, 30), (100, 30), (101, 16), (100, 5)]
def r0l : List (Nat × Nat × Nat) := [(1, 2, 2), (0, 0, 1), (4, 0, 5), (4, 1, 6), (4, 2, 7), (4, 3, 8), (3, 0, 4), (3, 1, 9), (3, 2, 10), (0, 1, 3), (0, 2, 11), (13, 0, 14), (12, 0, 13), (0, 3, 12), (16, 0, 17), (15, 0, 16), (15, 1, 18), (0, 4, 15), (19, 0, 20), (19, 2, 21), (0, 5, 19), (23, 0, 24), (23, 2, 25), (22, 0, 23), (22, 1, 26), (0, 6, 22), (0, 7, 27), (28, 4, 29), (28, 5, 30), (28, 6, 31), (28, 8, 32), (28, 9, 33), (28, 10, 34), (28, 11, 35), (28, 12, 36), (28, 13, 37), (28, 14, 38), (39, 3, 40), (39, 4, 41), (39, 5, 42), (39, 6, 43), (39, 7, 44), (39, 8, 45), (28, 18, 39), (0, 8, 28), (46, 4, 47), (46, 5, 48), (46, 6, 49), (46, 8, 50), (46, 9, 51), (46, 10, 52), (46, 11, 53), (46, 12, 54), (46, 13, 55), (46, 14, 56), (57, 3, 58), (57, 4, 59), (57, 5, 60), (57, 6, 61), (57, 7, 62), (57, 8, 63), (46, 18, 57), (0, 9, 46), (0, 10, 64), (65, 4, 66), (65, 5, 67), (65, 6, 68), (65, 7, 69), (65, 20, 70), (65, 21, 71), (65, 22, 72), (65, 27, 73), (65, 30, 74), (65, 31, 75)]
def LAY (S : XS) (r : XR) : Prop := (∀ (q : Nat) (x : Nat × Nat), S0[q]? = some x → S[q]? = some x) ∧ ∀ (i : Nat) (x : Nat × Nat × Nat), r0l[i]? = some x → r x.1 x.2.1 = some x.2.2
theorem LAY.s {S : XS} {r : XR} (h : LAY S r) (q : Nat) (x : Nat × Nat) (e : S0[q]? = some x) : S[q]? = some x := h.1 q x e
theorem LAY.r {S : XS} {r : XR} (h : LAY S r) (i q d v : Nat) (e : r0l[i]? = some (q, d, v)) : r q d = some v := h.2 i (q, d, v) e
theorem vpl {i : Int32} {n : Nat} (h : (decide (0 ≤ i) && Nat.blt i.toNatClampNeg n) = true) : vp_in i n := by
  rw [Bool.and_eq_true] at h
  have h1 : 0 ≤ i := of_decide_eq_true h.1
  have h2 : i.toNatClampNeg < n := by simpa using h.2
  rintro (q | q)
  · exact absurd h1 (Int32.not_le.mpr q)
  · omega
abbrev z0 : Nat × (Nat → Int32) := (0, fun _ => 0)
def LY7 (S : XS) (r : XR) (a : Nat) : Prop := S[a]? = some (7, 0) ∧ r a 3 = some (a + 1) ∧ S[a + 1]? = some (100, 60) ∧ r a 4 = some (a + 2) ∧ S[a + 2]? = some (100, 60) ∧ r a 5 = some (a + 3) ∧ S[a + 3]? = some (100, 60) ∧ r a 6 = some (a + 4) ∧ S[a + 4]? = some (100, 60) ∧ r a 7 = some (a + 5) ∧ S[a + 5]? = some (100, 60) ∧ r a 8 = some (a + 6) ∧ S[a + 6]? = some (100, 60)
theorem LY7.o {S : XS} {r : XR} {a : Nat} (h : LY7 S r a) : S[a]? = some (7, 0) := h.1
theorem LY7.r3 {S : XS} {r : XR} {a : Nat} (h : LY7 S r a) : r a 3 = some (a + 1) := h.2.1
theorem LY7.s3 {S : XS} {r : XR} {a : Nat} (h : LY7 S r a) : S[a + 1]? = some (100, 60) := h.2.2.1
theorem LY7.r4 {S : XS} {r : XR} {a : Nat} (h : LY7 S r a) : r a 4 = some (a + 2) := h.2.2.2.1
theorem LY7.s4 {S : XS} {r : XR} {a : Nat} (h : LY7 S r a) : S[a + 2]? = some (100, 60) := h.2.2.2.2.1
theorem LY7.r5 {S : XS} {r : XR} {a : Nat} (h : LY7 S r a) : r a 5 = some (a + 3) := h.2.2.2.2.2.1
theorem LY7.s5 {S : XS} {r : XR} {a : Nat} (h : LY7 S r a) : S[a + 3]? = some (100, 60) := h.2.2.2.2.2.2.1
theorem LY7.r6 {S : XS} {r : XR} {a : Nat} (h : LY7 S r a) : r a 6 = some (a + 4) := h.2.2.2.2.2.2.2.1
theorem LY7.s6 {S : XS} {r : XR} {a : Nat} (h : LY7 S r a) : S[a + 4]? = some (100, 60) := h.2.2.2.2.2.2.2.2.1
theorem LY7.r7 {S : XS} {r : XR} {a : Nat} (h : LY7 S r a) : r a 7 = some (a + 5) := h.2.2.2.2.2.2.2.2.2.1
theorem LY7.s7 {S : XS} {r : XR} {a : Nat} (h : LY7 S r a) : S[a + 5]? = some (100, 60) := h.2.2.2.2.2.2.2.2.2.2.1
theorem LY7.r8 {S : XS} {r : XR} {a : Nat} (h : LY7 S r a) : r a 8 = some (a + 6) := h.2.2.2.2.2.2.2.2.2.2.2.1
theorem LY7.s8 {S : XS} {r : XR} {a : Nat} (h : LY7 S r a) : S[a + 6]? = some (100, 60) := h.2.2.2.2.2.2.2.2.2.2.2.2
theorem lay7_39 {S : XS} {r : XR} (h : LAY S r) : LY7 S r 39 := ⟨h.s 39 (7, 0) rfl, h.r 37 39 3 40 rfl, h.s 40 (100, 60) rfl, h.r 38 39 4 41 rfl, h.s 41 (100, 60) rfl, h.r 39 39 5 42 rfl, h.s 42 (100, 60) rfl, h.r 40 39 6 43 rfl, h.s 43 (100, 60) rfl, h.r 41 39 7 44 rfl, h.s 44 (100, 60) rfl, h.r 42 39 8 45 rfl, h.s 45 (100, 60) rfl⟩
theorem lay7_57 {S : XS} {r : XR} (h : LAY S r) : LY7 S r 57 := ⟨h.s 57 (7, 0) rfl, h.r 55 57 3 58 rfl, h.s 58 (100, 60) rfl, h.r 56 57 4 59 rfl, h.s 59 (100, 60) rfl, h.r 57 57 5 60 rfl, h.s 60 (100, 60) rfl, h.r 58 57 6 61 rfl, h.s 61 (100, 60) rfl, h.r 59 57 7 62 rfl, h.s 62 (100, 60) rfl, h.r 60 57 8 63 rfl, h.s 63 (100, 60) rfl⟩
def LY0 (S : XS) (r : XR) (a : Nat) : Prop := S[a]? = some (0, 0) ∧ r a 4 = some (a + 1) ∧ S[a + 1]? = some (100, 15) ∧ r a 5 = some (a + 2) ∧ S[a + 2]? = some (100, 15) ∧ r a 6 = some (a + 3) ∧ S[a + 3]? = some (100, 11) ∧ r a 8 = some (a + 4) ∧ S[a + 4]? = some (101, 6) ∧ r a 9 = some (a + 5) ∧ S[a + 5]? = some (100, 6) ∧ r a 10 = some (a + 6) ∧ S[a + 6]? = some (100, 6) ∧ r a 11 = some (a + 7) ∧ S[a + 7]? = some (100, 6) ∧ r a 12 = some (a + 8) ∧ S[a + 8]? = some (100, 6) ∧ r a 13 = some (a + 9) ∧ S[a + 9]? = some (100, 6) ∧ r a 14 = some (a + 10) ∧ S[a + 10]? = some (100, 6) ∧ r a 18 = some (a + 11) ∧ LY7 S r (a + 11)
theorem LY0.o {S : XS} {r : XR} {a : Nat} (h : LY0 S r a) : S[a]? = some (0, 0) := h.1
theorem LY0.r4 {S : XS} {r : XR} {a : Nat} (h : LY0 S r a) : r a 4 = some (a + 1) := h.2.1
theorem LY0.s4 {S : XS} {r : XR} {a : Nat} (h : LY0 S r a) : S[a + 1]? = some (100, 15) := h.2.2.1
theorem LY0.r5 {S : XS} {r : XR} {a : Nat} (h : LY0 S r a) : r a 5 = some (a + 2) := h.2.2.2.1
theorem LY0.s5 {S : XS} {r : XR} {a : Nat} (h : LY0 S r a) : S[a + 2]? = some (100, 15) := h.2.2.2.2.1
theorem LY0.r6 {S : XS} {r : XR} {a : Nat} (h : LY0 S r a) : r a 6 = some (a + 3) := h.2.2.2.2.2.1
theorem LY0.s6 {S : XS} {r : XR} {a : Nat} (h : LY0 S r a) : S[a + 3]? = some (100, 11) := h.2.2.2.2.2.2.1
theorem LY0.r8 {S : XS} {r : XR} {a : Nat} (h : LY0 S r a) : r a 8 = some (a + 4) := h.2.2.2.2.2.2.2.1
theorem LY0.s8 {S : XS} {r : XR} {a : Nat} (h : LY0 S r a) : S[a + 4]? = some (101, 6) := h.2.2.2.2.2.2.2.2.1
theorem LY0.r9 {S : XS} {r : XR} {a : Nat} (h : LY0 S r a) : r a 9 = some (a + 5) := h.2.2.2.2.2.2.2.2.2.1
theorem LY0.s9 {S : XS} {r : XR} {a : Nat} (h : LY0 S r a) : S[a + 5]? = some (100, 6) := h.2.2.2.2.2.2.2.2.2.2.1
theorem LY0.r10 {S : XS} {r : XR} {a : Nat} (h : LY0 S r a) : r a 10 = some (a + 6) := h.2.2.2.2.2.2.2.2.2.2.2.1
theorem LY0.s10 {S : XS} {r : XR} {a : Nat} (h : LY0 S r a) : S[a + 6]? = some (100, 6) := h.2.2.2.2.2.2.2.2.2.2.2.2.1
theorem LY0.r11 {S : XS} {r : XR} {a : Nat} (h : LY0 S r a) : r a 11 = some (a + 7) := h.2.2.2.2.2.2.2.2.2.2.2.2.2.1
theorem LY0.s11 {S : XS} {r : XR} {a : Nat} (h : LY0 S r a) : S[a + 7]? = some (100, 6) := h.2.2.2.2.2.2.2.2.2.2.2.2.2.2.1
theorem LY0.r12 {S : XS} {r : XR} {a : Nat} (h : LY0 S r a) : r a 12 = some (a + 8) := h.2.2.2.2.2.2.2.2.2.2.2.2.2.2.2.1
theorem LY0.s12 {S : XS} {r : XR} {a : Nat} (h : LY0 S r a) : S[a + 8]? = some (100, 6) := h.2.2.2.2.2.2.2.2.2.2.2.2.2.2.2.2.1
theorem LY0.r13 {S : XS} {r : XR} {a : Nat} (h : LY0 S r a) : r a 13 = some (a + 9) := h.2.2.2.2.2.2.2.2.2.2.2.2.2.2.2.2.2.1
theorem LY0.s13 {S : XS} {r : XR} {a : Nat} (h : LY0 S r a) : S[a + 9]? = some (100, 6) := h.2.2.2.2.2.2.2.2.2.2.2.2.2.2.2.2.2.2.1
theorem LY0.r14 {S : XS} {r : XR} {a : Nat} (h : LY0 S r a) : r a 14 = some (a + 10) := h.2.2.2.2.2.2.2.2.2.2.2.2.2.2.2.2.2.2.2.1
theorem LY0.s14 {S : XS} {r : XR} {a : Nat} (h : LY0 S r a) : S[a + 10]? = some (100, 6) := h.2.2.2.2.2.2.2.2.2.2.2.2.2.2.2.2.2.2.2.2.1
theorem LY0.r18 {S : XS} {r : XR} {a : Nat} (h : LY0 S r a) : r a 18 = some (a + 11) := h.2.2.2.2.2.2.2.2.2.2.2.2.2.2.2.2.2.2.2.2.2.1
theorem LY0.l18 {S : XS} {r : XR} {a : Nat} (h : LY0 S r a) : LY7 S r (a + 11) := h.2.2.2.2.2.2.2.2.2.2.2.2.2.2.2.2.2.2.2.2.2.2
theorem lay0_28 {S : XS} {r : XR} (h : LAY S r) : LY0 S r 28 := ⟨h.s 28 (0, 0) rfl, h.r 27 28 4 29 rfl, h.s 29 (100, 15) rfl, h.r 28 28 5 30 rfl, h.s 30 (100, 15) rfl, h.r 29 28 6 31 rfl, h.s 31 (100, 11) rfl, h.r 30 28 8 32 rfl, h.s 32 (101, 6) rfl, h.r 31 28 9 33 rfl, h.s 33 (100, 6) rfl, h.r 32 28 10 34 rfl, h.s 34 (100, 6) rfl, h.r 33 28 11 35 rfl, h.s 35 (100, 6) rfl, h.r 34 28 12 36 rfl, h.s 36 (100, 6) rfl, h.r 35 28 13 37 rfl, h.s 37 (100, 6) rfl, h.r 36 28 14 38 rfl, h.s 38 (100, 6) rfl, h.r 43 28 18 39 rfl, lay7_39 h⟩
theorem lay0_46 {S : XS} {r : XR} (h : LAY S r) : LY0 S r 46 := ⟨h.s 46 (0, 0) rfl, h.r 45 46 4 47 rfl, h.s 47 (100, 15) rfl, h.r 46 46 5 48 rfl, h.s 48 (100, 15) rfl, h.r 47 46 6 49 rfl, h.s 49 (100, 11) rfl, h.r 48 46 8 50 rfl, h.s 50 (101, 6) rfl, h.r 49 46 9 51 rfl, h.s 51 (100, 6) rfl, h.r 50 46 10 52 rfl, h.s 52 (100, 6) rfl, h.r 51 46 11 53 rfl, h.s 53 (100, 6) rfl, h.r 52 46 12 54 rfl, h.s 54 (100, 6) rfl, h.r 53 46 13 55 rfl, h.s 55 (100, 6) rfl, h.r 54 46 14 56 rfl, h.s 56 (100, 6) rfl, h.r 61 46 18 57 rfl, lay7_57 h⟩
def LY5 (S : XS) (r : XR) (a : Nat) : Prop := S[a]? = some (5, 0) ∧ r a 0 = some (a + 1) ∧ S[a + 1]? = some (102, 900)
theorem LY5.o {S : XS} {r : XR} {a : Nat} (h : LY5 S r a) : S[a]? = some (5, 0) := h.1
theorem LY5.r0 {S : XS} {r : XR} {a : Nat} (h : LY5 S r a) : r a 0 = some (a + 1) := h.2.1
theorem LY5.s0 {S : XS} {r : XR} {a : Nat} (h : LY5 S r a) : S[a + 1]? = some (102, 900) := h.2.2
theorem lay5_13 {S : XS} {r : XR} (h : LAY S r) : LY5 S r 13 := ⟨h.s 13 (5, 0) rfl, h.r 11 13 0 14 rfl, h.s 14 (102, 900) rfl⟩
theorem lay5_16 {S : XS} {r : XR} (h : LAY S r) : LY5 S r 16 := ⟨h.s 16 (5, 0) rfl, h.r 14 16 0 17 rfl, h.s 17 (102, 900) rfl⟩
def LY4 (S : XS) (r : XR) (a : Nat) : Prop := S[a]? = some (4, 0) ∧ r a 0 = some (a + 1) ∧ S[a + 1]? = some (100, 30) ∧ r a 2 = some (a + 2) ∧ S[a + 2]? = some (100, 31)
theorem LY4.o {S : XS} {r : XR} {a : Nat} (h : LY4 S r a) : S[a]? = some (4, 0) := h.1
theorem LY4.r0 {S : XS} {r : XR} {a : Nat} (h : LY4 S r a) : r a 0 = some (a + 1) := h.2.1
theorem LY4.s0 {S : XS} {r : XR} {a : Nat} (h : LY4 S r a) : S[a + 1]? = some (100, 30) := h.2.2.1
theorem LY4.r2 {S : XS} {r : XR} {a : Nat} (h : LY4 S r a) : r a 2 = some (a + 2) := h.2.2.2.1
theorem LY4.s2 {S : XS} {r : XR} {a : Nat} (h : LY4 S r a) : S[a + 2]? = some (100, 31) := h.2.2.2.2
theorem lay4_19 {S : XS} {r : XR} (h : LAY S r) : LY4 S r 19 := ⟨h.s 19 (4, 0) rfl, h.r 18 19 0 20 rfl, h.s 20 (100, 30) rfl, h.r 19 19 2 21 rfl, h.s 21 (100, 31) rfl⟩
theorem lay4_23 {S : XS} {r : XR} (h : LAY S r) : LY4 S r 23 := ⟨h.s 23 (4, 0) rfl, h.r 21 23 0 24 rfl, h.s 24 (100, 30) rfl, h.r 22 23 2 25 rfl, h.s 25 (100, 31) rfl⟩
theorem rw_k {i : Int32} (h : vp_in i 4) : i.toNatClampNeg = 0 ∨ i.toNatClampNeg = 1 ∨ i.toNatClampNeg = 2 ∨ i.toNatClampNeg = 3 := by
  have h1 : i.toNatClampNeg < 4 := Nat.not_le.mp fun q => h (Or.inr q)
  omega
theorem rw_r {S : XS} {r : XR} (hL : LAY S r) {i : Int32} (h : vp_in i 4) : r 4 i.toNatClampNeg = some (5 + i.toNatClampNeg) := by
  rcases rw_k h with e | e | e | e <;> rw [e]
  · exact hL.r 2 4 0 5 rfl
  · exact hL.r 3 4 1 6 rfl
  · exact hL.r 4 4 2 7 rfl
  · exact hL.r 5 4 3 8 rfl
theorem rw_s {S : XS} {r : XR} (hL : LAY S r) {i : Int32} (h : vp_in i 4) : S[5 + i.toNatClampNeg]? = some (101, 60) := by
  rcases rw_k h with e | e | e | e <;> rw [e]
  · exact hL.s 5 (101, 60) rfl
  · exact hL.s 6 (101, 60) rfl
  · exact hL.s 7 (101, 60) rfl
  · exact hL.s 8 (101, 60) rfl
