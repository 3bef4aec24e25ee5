/-! words: the reference -/
def spl (p q u v w x : Nat) : Nat :=
  let a := (p - 96) * 32 + (q - 96)
  let b := if u = 0 then a else a * 32 + (u - 96)
  let c := if v = 0 then b else b * 32 + (v - 96)
  let e := if w = 0 then c else c * 32 + (w - 96)
  if x = 0 then e else e * 32 + (x - 96)
abbrev ltr (x : Nat) : Prop := 97 ≤ x ∧ x ≤ 122
abbrev lt0 (x : Nat) : Prop := x = 0 ∨ 97 ≤ x ∧ x ≤ 122
theorem spl_c {c x : Nat} (hc : c < 1099511627776) (hx : ltr x) : ((lN c * lN 32) + (nI x).toInt64) - lN 96 = lN (c * 32 + (x - 96)) := by
  unfold ltr at hx
  rw [lN_mul, nI_l (by omega), lN_add, lN_sub (by omega)]
  congr 1
  omega
theorem r214 {d : Nat} {Q : XQ} {S : XS} {I : XI} {J : XJ} {r : XR} {p q u v w x : Nat} (hp : ltr p) (hq : ltr q) (hu : lt0 u) (hv : lt0 v) (hw : lt0 w) (hx : lt0 x) (hQ : Q (some (.long (lN (spl p q u v w x)))) S I J r) : xcall (d + 1) 214 [.int (nI p), .int (nI q), .int (nI u), .int (nI v), .int (nI w), .int (nI x)] S I J r Q := by
  unfold spl at hQ
  have ha : (p - 96) * 32 + (q - 96) < 1024 := by unfold ltr at hp hq; omega
  have fst : ((((nI p).toInt64 - lN 96) * lN 32) + (nI q).toInt64) - lN 96 = lN ((p - 96) * 32 + (q - 96)) := by
    rw [nI_l (by unfold ltr at hp; omega), lN_sub (by unfold ltr at hp; omega)]
    exact spl_c (by unfold ltr at hp; omega) hq
  generalize (p - 96) * 32 + (q - 96) = a at *
  dsimp only at hQ
  have z : ∀ y, lt0 y → (nI y ≤ 0 ↔ y = 0) := fun y hy => by
    unfold lt0 at hy
    rw [show (0 : Int32) = nI 0 from rfl, nI_leI (by omega) (by omega)]
    omega
  have nz : ∀ y, lt0 y → ¬ y = 0 → ltr y := fun y hy h => by
    unfold lt0 at hy; unfold ltr; omega
  have s1 : ∀ b, b < 32768 → Q (some (.long (lN (let c := if v = 0 then b else b * 32 + (v - 96)
      let e := if w = 0 then c else c * 32 + (w - 96)
      if x = 0 then e else e * 32 + (x - 96))))) S I J r → ∀ w0 w1 w2 w6 w7, xrun z0 (xcall d) Q 214 41 [w0, w1, w2, .int (nI v), .int (nI w), .int (nI x), w6, w7] [.long (lN b)] S I J r 0 0 := fun b hb hQ w0 w1 w2 w6 w7 => by
    have s2 : ∀ c, c < 1048576 → Q (some (.long (lN (let e := if w = 0 then c else c * 32 + (w - 96)
      if x = 0 then e else e * 32 + (x - 96))))) S I J r → ∀ w0 w1 w2 w3 w6 w7, xrun z0 (xcall d) Q 214 65 [w0, w1, w2, w3, .int (nI w), .int (nI x), w6, w7] [.long (lN c)] S I J r 0 0 := fun c hc hQ w0 w1 w2 w3 w6 w7 => by
      dsimp only at hQ
      refine K214_65 ?_
      by_cases e5 : w = 0
      · rw [if_pos e5] at hQ
        refine yes ((z w hw).mpr e5) ?_
        by_cases e6 : x = 0
        · rw [if_pos e6] at hQ
          exact yes ((z x hx).mpr e6) hQ
        · rw [if_neg e6] at hQ
          refine no (fun h => e6 ((z x hx).mp h)) ?_
          rw [spl_c (by omega) (nz x hx e6)]
          exact hQ
      · rw [if_neg e5] at hQ
        have hw' := nz w hw e5
        refine no (fun h => e5 ((z w hw).mp h)) ?_
        rw [spl_c (by omega) hw']
        unfold ltr at hw'
        by_cases e6 : x = 0
        · rw [if_pos e6] at hQ
          exact yes ((z x hx).mpr e6) hQ
        · rw [if_neg e6] at hQ
          refine no (fun h => e6 ((z x hx).mp h)) ?_
          rw [spl_c (by omega) (nz x hx e6)]
          exact hQ
    dsimp only at hQ
    refine K214_41 ?_
    by_cases e4 : v = 0
    · rw [if_pos e4] at hQ
      exact yes ((z v hv).mpr e4) (s2 b (by omega) hQ _ _ _ _ _ _)
    · rw [if_neg e4] at hQ
      have hv' := nz v hv e4
      refine no (fun h => e4 ((z v hv).mp h)) ?_
      rw [spl_c (by omega) hv']
      unfold ltr at hv'
      exact s2 _ (by omega) hQ _ _ _ _ _ _
  refine E214 ?_
  rw [fst]
  by_cases e3 : u = 0
  · rw [if_pos e3] at hQ
    exact yes ((z u hu).mpr e3) (s1 a (by omega) hQ _ _ _ _ _)
  · rw [if_neg e3] at hQ
    have hu' := nz u hu e3
    refine no (fun h => e3 ((z u hu).mp h)) ?_
    rw [spl_c (by omega) hu']
    unfold ltr at hu'
    exact s1 _ (by omega) hQ _ _ _ _ _
theorem r215 {d : Nat} {Q : XQ} {S : XS} {I : XI} {J : XJ} {r : XR} {n s K : Nat} {F : Nat → Int32} (hL : LAY S r) (h : RM I J n F s) (hK : 0 < K ∧ K < 1099511627776) (hT : isW F n s K = true → Q (some (.int (nI 1))) S I J r) (hF : isW F n s K = false → Q (some (.int (nI 0))) S I J r) : xcall (d + 1) 215 [.ref 65, .long (lN K)] S I J r Q := by
  refine E215 hL ?_
  rw [h.2.2.2.1, nI_eqI (by have := kd_le (F := F) (n := n) (s := s); omega) (by decide)]
  by_cases q : kd F n s = 1
  · refine nno q ?_
    rw [(h.2.2.2.2.1 q).1, cmp_e]
    have hw := wc_lt q
    have key : wJ F s (ex F n s - s) = lN K ↔ wc F n s = K := by
      have h8 := wc_0 q
      unfold wJ
      by_cases q2 : 8 < ex F n s - s
      · rw [if_pos q2, h8.mpr q2]
        refine ⟨fun e => ?_, fun e => by omega⟩
        have := congrArg Int64.toInt e
        rw [l_i (by omega)] at this
        have h3 : (-1 : Int64).toInt = -1 := rfl
        omega
      · rw [if_neg q2]
        have e : wc F n s = wcd F s (ex F n s - s) := by unfold wc; rw [if_neg q2]
        rw [← e, lN_inj (by omega) (by omega)]
    rw [key]
    by_cases q2 : wc F n s = K
    · exact nno q2 (hT (isW_t.mpr ⟨q, q2⟩))
    · exact yes q2 (hF (Bool.eq_false_iff.mpr (fun h => q2 (isW_t.mp h).2)))
  · exact yes q (hF (Bool.eq_false_iff.mpr (fun h => q (isW_t.mp h).1)))
def b01 (b : Bool) : Int32 := if b = true then nI 1 else nI 0
theorem b01_t {b : Bool} (h : b = true) : b01 b = nI 1 := by unfold b01; rw [if_pos h]
theorem b01_f {b : Bool} (h : b = false) : b01 b = nI 0 := by rw [h]; rfl
def kCoast : Nat := spl 99 111 97 115 116 0
def kBy : Nat := spl 98 121 0 0 0 0
def kOdds : Nat := spl 111 100 100 115 0 0
def kRock : Nat := spl 114 111 99 107 0 0
def kDeep : Nat := spl 100 101 101 112 0 0
def kCousin : Nat := spl 99 111 117 115 105 110
def kAt : Nat := spl 97 116 0 0 0 0
def kWide : Nat := spl 119 105 100 101 0 0
def kHigh : Nat := spl 104 105 103 104 0 0
def kInked : Nat := spl 105 110 107 101 100 0
def kTan : Nat := spl 116 97 110 0 0 0
def kVeiled : Nat := spl 118 101 105 108 101 100
def kEnd : Nat := spl 101 110 100 0 0 0
def kShows : Nat := spl 115 104 111 119 115 0
theorem r213 {d : Nat} {Q : XQ} {S : XS} {I : XI} {J : XJ} {r : XR} {n s : Nat} {F : Nat → Int32} (hL : LAY S r) (h : RM I J n F s) (hQ : Q (some (.int (b01 (isW F n s kCoast)))) S I J r) : xcall (d + 3) 213 [.ref 65] S I J r Q :=
  E213 (r214 (p := 99) (q := 111) (u := 97) (v := 115) (w := 116) (x := 0) (by decide) (by decide) (by decide) (by decide) (by decide) (by decide) (K213_15 hL (r215 (K := kCoast) hL h (by decide) (fun e => K213_18 ⟨Or.inr rfl, by rw [b01_t e] at hQ; exact hQ⟩) (fun e => K213_18 ⟨Or.inl rfl, by rw [b01_f e] at hQ; exact hQ⟩))))
theorem r223 {d : Nat} {Q : XQ} {S : XS} {I : XI} {J : XJ} {r : XR} {n s : Nat} {F : Nat → Int32} (hL : LAY S r) (h : RM I J n F s) (hQ : Q (some (.int (b01 (isW F n s kBy)))) S I J r) : xcall (d + 3) 223 [.ref 65] S I J r Q :=
  E223 (r214 (p := 98) (q := 121) (u := 0) (v := 0) (w := 0) (x := 0) (by decide) (by decide) (by decide) (by decide) (by decide) (by decide) (K223_12 hL (r215 (K := kBy) hL h (by decide) (fun e => K223_15 ⟨Or.inr rfl, by rw [b01_t e] at hQ; exact hQ⟩) (fun e => K223_15 ⟨Or.inl rfl, by rw [b01_f e] at hQ; exact hQ⟩))))
theorem r225 {d : Nat} {Q : XQ} {S : XS} {I : XI} {J : XJ} {r : XR} {n s : Nat} {F : Nat → Int32} (hL : LAY S r) (h : RM I J n F s) (hQ : Q (some (.int (b01 (isW F n s kOdds)))) S I J r) : xcall (d + 3) 225 [.ref 65] S I J r Q :=
  E225 (r214 (p := 111) (q := 100) (u := 100) (v := 115) (w := 0) (x := 0) (by decide) (by decide) (by decide) (by decide) (by decide) (by decide) (K225_14 hL (r215 (K := kOdds) hL h (by decide) (fun e => K225_17 ⟨Or.inr rfl, by rw [b01_t e] at hQ; exact hQ⟩) (fun e => K225_17 ⟨Or.inl rfl, by rw [b01_f e] at hQ; exact hQ⟩))))
theorem r227 {d : Nat} {Q : XQ} {S : XS} {I : XI} {J : XJ} {r : XR} {n s : Nat} {F : Nat → Int32} (hL : LAY S r) (h : RM I J n F s) (hQ : Q (some (.int (b01 (isW F n s kRock)))) S I J r) : xcall (d + 3) 227 [.ref 65] S I J r Q :=
  E227 (r214 (p := 114) (q := 111) (u := 99) (v := 107) (w := 0) (x := 0) (by decide) (by decide) (by decide) (by decide) (by decide) (by decide) (K227_14 hL (r215 (K := kRock) hL h (by decide) (fun e => K227_17 ⟨Or.inr rfl, by rw [b01_t e] at hQ; exact hQ⟩) (fun e => K227_17 ⟨Or.inl rfl, by rw [b01_f e] at hQ; exact hQ⟩))))
theorem r230 {d : Nat} {Q : XQ} {S : XS} {I : XI} {J : XJ} {r : XR} {n s : Nat} {F : Nat → Int32} (hL : LAY S r) (h : RM I J n F s) (hQ : Q (some (.int (b01 (isW F n s kDeep)))) S I J r) : xcall (d + 3) 230 [.ref 65] S I J r Q :=
  E230 (r214 (p := 100) (q := 101) (u := 101) (v := 112) (w := 0) (x := 0) (by decide) (by decide) (by decide) (by decide) (by decide) (by decide) (K230_14 hL (r215 (K := kDeep) hL h (by decide) (fun e => K230_17 ⟨Or.inr rfl, by rw [b01_t e] at hQ; exact hQ⟩) (fun e => K230_17 ⟨Or.inl rfl, by rw [b01_f e] at hQ; exact hQ⟩))))
theorem r232 {d : Nat} {Q : XQ} {S : XS} {I : XI} {J : XJ} {r : XR} {n s : Nat} {F : Nat → Int32} (hL : LAY S r) (h : RM I J n F s) (hQ : Q (some (.int (b01 (isW F n s kCousin)))) S I J r) : xcall (d + 3) 232 [.ref 65] S I J r Q :=
  E232 (r214 (p := 99) (q := 111) (u := 117) (v := 115) (w := 105) (x := 110) (by decide) (by decide) (by decide) (by decide) (by decide) (by decide) (K232_16 hL (r215 (K := kCousin) hL h (by decide) (fun e => K232_19 ⟨Or.inr rfl, by rw [b01_t e] at hQ; exact hQ⟩) (fun e => K232_19 ⟨Or.inl rfl, by rw [b01_f e] at hQ; exact hQ⟩))))
theorem r236 {d : Nat} {Q : XQ} {S : XS} {I : XI} {J : XJ} {r : XR} {n s : Nat} {F : Nat → Int32} (hL : LAY S r) (h : RM I J n F s) (hQ : Q (some (.int (b01 (isW F n s kAt)))) S I J r) : xcall (d + 3) 236 [.ref 65] S I J r Q :=
  E236 (r214 (p := 97) (q := 116) (u := 0) (v := 0) (w := 0) (x := 0) (by decide) (by decide) (by decide) (by decide) (by decide) (by decide) (K236_12 hL (r215 (K := kAt) hL h (by decide) (fun e => K236_15 ⟨Or.inr rfl, by rw [b01_t e] at hQ; exact hQ⟩) (fun e => K236_15 ⟨Or.inl rfl, by rw [b01_f e] at hQ; exact hQ⟩))))
theorem r237 {d : Nat} {Q : XQ} {S : XS} {I : XI} {J : XJ} {r : XR} {n s : Nat} {F : Nat → Int32} (hL : LAY S r) (h : RM I J n F s) (hQ : Q (some (.int (b01 (isW F n s kWide)))) S I J r) : xcall (d + 3) 237 [.ref 65] S I J r Q :=
  E237 (r214 (p := 119) (q := 105) (u := 100) (v := 101) (w := 0) (x := 0) (by decide) (by decide) (by decide) (by decide) (by decide) (by decide) (K237_14 hL (r215 (K := kWide) hL h (by decide) (fun e => K237_17 ⟨Or.inr rfl, by rw [b01_t e] at hQ; exact hQ⟩) (fun e => K237_17 ⟨Or.inl rfl, by rw [b01_f e] at hQ; exact hQ⟩))))
theorem r238 {d : Nat} {Q : XQ} {S : XS} {I : XI} {J : XJ} {r : XR} {n s : Nat} {F : Nat → Int32} (hL : LAY S r) (h : RM I J n F s) (hQ : Q (some (.int (b01 (isW F n s kHigh)))) S I J r) : xcall (d + 3) 238 [.ref 65] S I J r Q :=
  E238 (r214 (p := 104) (q := 105) (u := 103) (v := 104) (w := 0) (x := 0) (by decide) (by decide) (by decide) (by decide) (by decide) (by decide) (K238_14 hL (r215 (K := kHigh) hL h (by decide) (fun e => K238_17 ⟨Or.inr rfl, by rw [b01_t e] at hQ; exact hQ⟩) (fun e => K238_17 ⟨Or.inl rfl, by rw [b01_f e] at hQ; exact hQ⟩))))
theorem r239 {d : Nat} {Q : XQ} {S : XS} {I : XI} {J : XJ} {r : XR} {n s : Nat} {F : Nat → Int32} (hL : LAY S r) (h : RM I J n F s) (hQ : Q (some (.int (b01 (isW F n s kInked)))) S I J r) : xcall (d + 3) 239 [.ref 65] S I J r Q :=
  E239 (r214 (p := 105) (q := 110) (u := 107) (v := 101) (w := 100) (x := 0) (by decide) (by decide) (by decide) (by decide) (by decide) (by decide) (K239_15 hL (r215 (K := kInked) hL h (by decide) (fun e => K239_18 ⟨Or.inr rfl, by rw [b01_t e] at hQ; exact hQ⟩) (fun e => K239_18 ⟨Or.inl rfl, by rw [b01_f e] at hQ; exact hQ⟩))))
theorem r242 {d : Nat} {Q : XQ} {S : XS} {I : XI} {J : XJ} {r : XR} {n s : Nat} {F : Nat → Int32} (hL : LAY S r) (h : RM I J n F s) (hQ : Q (some (.int (b01 (isW F n s kTan)))) S I J r) : xcall (d + 3) 242 [.ref 65] S I J r Q :=
  E242 (r214 (p := 116) (q := 97) (u := 110) (v := 0) (w := 0) (x := 0) (by decide) (by decide) (by decide) (by decide) (by decide) (by decide) (K242_13 hL (r215 (K := kTan) hL h (by decide) (fun e => K242_16 ⟨Or.inr rfl, by rw [b01_t e] at hQ; exact hQ⟩) (fun e => K242_16 ⟨Or.inl rfl, by rw [b01_f e] at hQ; exact hQ⟩))))
theorem r243 {d : Nat} {Q : XQ} {S : XS} {I : XI} {J : XJ} {r : XR} {n s : Nat} {F : Nat → Int32} (hL : LAY S r) (h : RM I J n F s) (hQ : Q (some (.int (b01 (isW F n s kVeiled)))) S I J r) : xcall (d + 3) 243 [.ref 65] S I J r Q :=
  E243 (r214 (p := 118) (q := 101) (u := 105) (v := 108) (w := 101) (x := 100) (by decide) (by decide) (by decide) (by decide) (by decide) (by decide) (K243_16 hL (r215 (K := kVeiled) hL h (by decide) (fun e => K243_19 ⟨Or.inr rfl, by rw [b01_t e] at hQ; exact hQ⟩) (fun e => K243_19 ⟨Or.inl rfl, by rw [b01_f e] at hQ; exact hQ⟩))))
theorem r244 {d : Nat} {Q : XQ} {S : XS} {I : XI} {J : XJ} {r : XR} {n s : Nat} {F : Nat → Int32} (hL : LAY S r) (h : RM I J n F s) (hQ : Q (some (.int (b01 (isW F n s kEnd)))) S I J r) : xcall (d + 3) 244 [.ref 65] S I J r Q :=
  E244 (r214 (p := 101) (q := 110) (u := 100) (v := 0) (w := 0) (x := 0) (by decide) (by decide) (by decide) (by decide) (by decide) (by decide) (K244_13 hL (r215 (K := kEnd) hL h (by decide) (fun e => K244_16 ⟨Or.inr rfl, by rw [b01_t e] at hQ; exact hQ⟩) (fun e => K244_16 ⟨Or.inl rfl, by rw [b01_f e] at hQ; exact hQ⟩))))
def kSun : Nat := spl 115 117 110 0 0 0
def kRain : Nat := spl 114 97 105 110 0 0
def kVeil : Nat := spl 118 101 105 108 0 0
def kBare : Nat := spl 98 97 114 101 0 0
def kInk : Nat := spl 105 110 107 0 0 0
def kWash : Nat := spl 119 97 115 104 0 0
def kSail : Nat := spl 115 97 105 108 0 0
def kAny : Nat := spl 97 110 121 0 0 0
def kWhen : Nat := spl 119 104 101 110 0 0
def kLoop : Nat := spl 108 111 111 112 0 0
def kStop : Nat := spl 115 116 111 112 0 0
def stp (F : Nat → Int32) (n s : Nat) : Option Nat := if isW F n s kSun = true then some 0 else if isW F n s kRain = true then some 1 else if isW F n s kVeil = true then some 2 else if isW F n s kBare = true then some 3 else if isW F n s kInk = true then some 4 else if isW F n s kWash = true then some 5 else if isW F n s kSail = true then some 6 else if isW F n s kAny = true then some 7 else if isW F n s kWhen = true then some 8 else if isW F n s kLoop = true then some 9 else if isW F n s kStop = true then some 10 else none
theorem r240 {d : Nat} {Q : XQ} {S : XS} {I : XI} {J : XJ} {r : XR} {n s : Nat} {F : Nat → Int32} (hL : LAY S r) (h : RM I J n F s) (hQ : Q (some (.int (gI (stp F n s)))) S I J r) : xcall (d + 3) 240 [.ref 65] S I J r Q := by
  unfold stp at hQ
  refine E240 (r214 (p := 115) (q := 117) (u := 110) (v := 0) (w := 0) (x := 0) (by decide) (by decide) (by decide) (by decide) (by decide) (by decide) (K240_13 hL (r215 (K := kSun) hL h (by decide) (fun e => ?_) (fun e => ?_))))
  · rw [if_pos e] at hQ
    exact K240_16 (no (by decide) hQ)
  rw [if_neg (by rw [e]; decide)] at hQ
  refine K240_16 (yes rfl (r214 (p := 114) (q := 97) (u := 105) (v := 110) (w := 0) (x := 0) (by decide) (by decide) (by decide) (by decide) (by decide) (by decide) (K240_35 hL (r215 (K := kRain) hL h (by decide) (fun e => ?_) (fun e => ?_)))))
  · rw [if_pos e] at hQ
    exact K240_38 (no (by decide) hQ)
  rw [if_neg (by rw [e]; decide)] at hQ
  refine K240_38 (yes rfl (r214 (p := 118) (q := 101) (u := 105) (v := 108) (w := 0) (x := 0) (by decide) (by decide) (by decide) (by decide) (by decide) (by decide) (K240_57 hL (r215 (K := kVeil) hL h (by decide) (fun e => ?_) (fun e => ?_)))))
  · rw [if_pos e] at hQ
    exact K240_60 (no (by decide) hQ)
  rw [if_neg (by rw [e]; decide)] at hQ
  refine K240_60 (yes rfl (r214 (p := 98) (q := 97) (u := 114) (v := 101) (w := 0) (x := 0) (by decide) (by decide) (by decide) (by decide) (by decide) (by decide) (K240_79 hL (r215 (K := kBare) hL h (by decide) (fun e => ?_) (fun e => ?_)))))
  · rw [if_pos e] at hQ
    exact K240_82 (no (by decide) hQ)
  rw [if_neg (by rw [e]; decide)] at hQ
  refine K240_82 (yes rfl (r214 (p := 105) (q := 110) (u := 107) (v := 0) (w := 0) (x := 0) (by decide) (by decide) (by decide) (by decide) (by decide) (by decide) (K240_100 hL (r215 (K := kInk) hL h (by decide) (fun e => ?_) (fun e => ?_)))))
  · rw [if_pos e] at hQ
    exact K240_103 (no (by decide) hQ)
  rw [if_neg (by rw [e]; decide)] at hQ
  refine K240_103 (yes rfl (r214 (p := 119) (q := 97) (u := 115) (v := 104) (w := 0) (x := 0) (by decide) (by decide) (by decide) (by decide) (by decide) (by decide) (K240_122 hL (r215 (K := kWash) hL h (by decide) (fun e => ?_) (fun e => ?_)))))
  · rw [if_pos e] at hQ
    exact K240_125 (no (by decide) hQ)
  rw [if_neg (by rw [e]; decide)] at hQ
  refine K240_125 (yes rfl (r214 (p := 115) (q := 97) (u := 105) (v := 108) (w := 0) (x := 0) (by decide) (by decide) (by decide) (by decide) (by decide) (by decide) (K240_144 hL (r215 (K := kSail) hL h (by decide) (fun e => ?_) (fun e => ?_)))))
  · rw [if_pos e] at hQ
    exact K240_147 (no (by decide) hQ)
  rw [if_neg (by rw [e]; decide)] at hQ
  refine K240_147 (yes rfl (r214 (p := 97) (q := 110) (u := 121) (v := 0) (w := 0) (x := 0) (by decide) (by decide) (by decide) (by decide) (by decide) (by decide) (K240_166 hL (r215 (K := kAny) hL h (by decide) (fun e => ?_) (fun e => ?_)))))
  · rw [if_pos e] at hQ
    exact K240_169 (no (by decide) hQ)
  rw [if_neg (by rw [e]; decide)] at hQ
  refine K240_169 (yes rfl (r214 (p := 119) (q := 104) (u := 101) (v := 110) (w := 0) (x := 0) (by decide) (by decide) (by decide) (by decide) (by decide) (by decide) (K240_189 hL (r215 (K := kWhen) hL h (by decide) (fun e => ?_) (fun e => ?_)))))
  · rw [if_pos e] at hQ
    exact K240_192 (no (by decide) hQ)
  rw [if_neg (by rw [e]; decide)] at hQ
  refine K240_192 (yes rfl (r214 (p := 108) (q := 111) (u := 111) (v := 112) (w := 0) (x := 0) (by decide) (by decide) (by decide) (by decide) (by decide) (by decide) (K240_212 hL (r215 (K := kLoop) hL h (by decide) (fun e => ?_) (fun e => ?_)))))
  · rw [if_pos e] at hQ
    exact K240_215 (no (by decide) hQ)
  rw [if_neg (by rw [e]; decide)] at hQ
  refine K240_215 (yes rfl (r214 (p := 115) (q := 116) (u := 111) (v := 112) (w := 0) (x := 0) (by decide) (by decide) (by decide) (by decide) (by decide) (by decide) (K240_235 hL (r215 (K := kStop) hL h (by decide) (fun e => ?_) (fun e => ?_)))))
  · rw [if_pos e] at hQ
    exact K240_238 (no (by decide) hQ)
  rw [if_neg (by rw [e]; decide)] at hQ
  exact K240_238 (yes rfl hQ)
def tsw (F : Nat → Int32) (n s : Nat) : Option Nat := if isW F n s kShows = true then some 0 else if isW F n s kTan = true then some 1 else if isW F n s kVeiled = true then some 2 else none
theorem r241 {d : Nat} {Q : XQ} {S : XS} {I : XI} {J : XJ} {r : XR} {n s : Nat} {F : Nat → Int32} (hL : LAY S r) (h : RM I J n F s) (hQ : Q (some (.int (gI (tsw F n s)))) S I J r) : xcall (d + 4) 241 [.ref 65] S I J r Q := by
  unfold tsw at hQ
  refine E241 (r214 (p := 115) (q := 104) (u := 111) (v := 119) (w := 115) (x := 0) (by decide) (by decide) (by decide) (by decide) (by decide) (by decide) (K241_15 hL (r215 (K := kShows) hL h (by decide) (fun e => ?_) (fun e => ?_))))
  · rw [if_pos e] at hQ
    exact K241_18 hL (no (by decide) hQ)
  rw [if_neg (by rw [e]; decide)] at hQ
  refine K241_18 hL (yes rfl (r242 hL h (K241_27 hL ?_)))
  cases e2 : isW F n s kTan
  · rw [if_neg (by rw [e2]; decide)] at hQ
    refine yes rfl (r243 hL h (K241_38 ?_))
    cases e3 : isW F n s kVeiled
    · rw [if_neg (by rw [e3]; decide)] at hQ
      exact yes rfl hQ
    · rw [if_pos e3] at hQ
      exact no (by decide) hQ
  · rw [if_pos e2] at hQ
    exact no (by decide) hQ
