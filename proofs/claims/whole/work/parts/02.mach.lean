/-! THE ABSTRACT MACHINE: its heap is (S, I, J, r): shapes, ints, longs, references; an address is a place in S. -/
abbrev XS : Type := List (Nat × Nat)
abbrev XI : Type := Nat → Nat → Int32
abbrev XJ : Type := Nat → Nat → Int64
abbrev XR : Type := Nat → Nat → Option Nat
abbrev XV : Type := List Value
abbrev XQ : Type := Option Value → XS → XI → XJ → XR → Prop
abbrev XK : Type := XV → XV → XS → XI → XJ → XR → Nat → Nat → Prop
abbrev XN : Type := Nat → XK
abbrev XC : Type := Nat → XV → XS → XI → XJ → XR → XQ → Prop
abbrev XO : Type := Nat × Nat × Nat × Nat × Nat × Nat × Nat × Nat × Int32 × Int64
def up2 {α : Type} (f : Nat → Nat → α) (a i : Nat) (v : α) : Nat → Nat → α := fun x y => if x = a then (if y = i then v else f x y) else f x y
def cp2 {α : Type} (f : Nat → Nat → α) (a sp b dp n : Nat) : Nat → Nat → α := fun x y => if x = b then (if dp ≤ y ∧ y < dp + n then f a (sp + (y - dp)) else f b y) else f x y
def isL2 : Value → Bool
  | .long _ => true
  | .double _ => true
  | _ => false
def lget (L : XV) (i : Nat) : Value := L.getD i (.float 0)
def xkp (v : Value) : Value := if isL2 v then .float 0 else v
def lset1 (L : XV) : Nat → Value → XV
  | 0, v => L.set 0 v
  | i + 1, v => (L.set i (xkp (lget L i))).set (i + 1) v
def lset2 (L : XV) (i : Nat) (v : Value) : XV := (lset1 L i v).set (i + 1) (.float 0)
def xpd : XV → XV
  | [] => []
  | .long x :: vs => .long x :: .float 0 :: xpd vs
  | .double x :: vs => .double x :: .float 0 :: xpd vs
  | v :: vs => v :: xpd vs
def xent (args : XV) (n : Nat) : XV := xpd args ++ List.replicate (n - (xpd args).length) (.float 0)
def xsz : XV → Nat
  | [] => 0
  | v :: vs => v.category + xsz vs
def ibin (d : Nat) (x y : Int32) : Int32 := match d with
  | 0 => x + y
  | 1 => x - y
  | 2 => x * y
  | 3 => x &&& y
  | 4 => x ||| y
  | 5 => x ^^^ y
  | 6 => x <<< (y &&& 31)
  | 7 => x >>> (y &&& 31)
  | _ => (x.toUInt32 >>> (y.toUInt32 &&& Int32.toUInt32 31)).toInt32
def lbin (d : Nat) (x y : Int64) : Int64 := match d with
  | 0 => x + y
  | 1 => x - y
  | 2 => x * y
  | 3 => x &&& y
  | _ => x ||| y
def icnd (d : Nat) (x y : Int32) : Prop := match d with
  | 0 => x = y
  | 1 => ¬ x = y
  | 2 => x < y
  | 3 => y ≤ x
  | 4 => y < x
  | _ => x ≤ y
def xsw (nx : XN) (L st : XV) (S : XS) (I : XI) (J : XJ) (r : XR) (cu su : Nat) (x : Int32) (dflt : Nat) : List (Int32 × Nat) → Prop
  | [] => nx dflt L st S I J r cu su
  | (k, t) :: rest => (x = k → nx t L st S I J r cu su) ∧ (¬ x = k → xsw nx L st S I J r cu su x dflt rest)
/-- what one instruction asks: K is what comes behind it, nx where it may jump to, cl a call, Q the method's end; mc ms: what it may make -/
def xst (sc : Nat × (Nat → Int32)) (cl : XC) (nx : XN) (Q : XQ) (mc ms : Nat) (K : XK) : XO → XK
  | (op, _, a, b, d, _, n, e, z, w) => fun L st S I J r cu su => match op with
    | 0 => K L (.int z :: st) S I J r cu su
    | 1 => K L (.long w :: st) S I J r cu su
    | 2 => K L (.retAddr b :: st) S I J r cu su
    | 3 => K L (.null :: st) S I J r cu su
    | 4 => match lget L a with
      | .int x => K L (.int x :: st) S I J r cu su
      | _ => False
    | 5 => match lget L a with
      | .long x => K L (.long x :: st) S I J r cu su
      | _ => False
    | 6 => match lget L a with
      | .ref x => K L (.ref x :: st) S I J r cu su
      | .retAddr x => K L (.retAddr x :: st) S I J r cu su
      | .null => K L (.null :: st) S I J r cu su
      | _ => False
    | 7 => match st with
      | .int x :: st => K (lset1 L a (.int x)) st S I J r cu su
      | _ => False
    | 8 => match st with
      | .long x :: st => K (lset2 L a (.long x)) st S I J r cu su
      | _ => False
    | 9 => match st with
      | .ref x :: st => K (lset1 L a (.ref x)) st S I J r cu su
      | .null :: st => K (lset1 L a .null) st S I J r cu su
      | _ => False
    | 10 => match lget L a with
      | .int x => K (lset1 L a (.int (x + z))) st S I J r cu su
      | _ => False
    | 11 => match st with
      | .int y :: .int x :: st => K L (.int (ibin d x y) :: st) S I J r cu su
      | _ => False
    | 12 => match st with
      | .int y :: .int x :: st => ¬ y = 0 ∧ K L (.int (if d = 0 then x / y else x - x / y * y) :: st) S I J r cu su
      | _ => False
    | 13 => match st with
      | .int x :: st => K L (.int (-x) :: st) S I J r cu su
      | _ => False
    | 14 => match st with
      | .long y :: .long x :: st => K L (.long (lbin d x y) :: st) S I J r cu su
      | _ => False
    | 15 => match st with
      | .long y :: .long x :: st => ¬ y = 0 ∧ K L (.long (if d = 0 then x / y else x - x / y * y) :: st) S I J r cu su
      | _ => False
    | 16 => match st with
      | .int y :: .long x :: st => K L (.long (x <<< (y.toInt64 &&& 63)) :: st) S I J r cu su
      | _ => False
    | 17 => match d, st with
      | 0, .int x :: st => K L (.long x.toInt64 :: st) S I J r cu su
      | 1, .long x :: st => K L (.int x.toInt32 :: st) S I J r cu su
      | 2, .int x :: st => K L (.int x.toInt8.toInt32 :: st) S I J r cu su
      | 3, .int x :: st => K L (.int x.toInt16.toInt32 :: st) S I J r cu su
      | 4, .int x :: st => K L (.int (x.toUInt32 % 65536).toInt32 :: st) S I J r cu su
      | 5, .long x :: st => K L (.long (-x) :: st) S I J r cu su
      | _, _ => False
    | 18 => match st with
      | .long y :: .long x :: st => K L (.int (lg_cmp x y) :: st) S I J r cu su
      | _ => False
    | 19 => match st with
      | v :: st => v.category = 1 ∧ K L (v :: v :: st) S I J r cu su
      | _ => False
    | 20 => match st with
      | v :: u :: st => v.category = 1 ∧ u.category = 1 ∧ K L (v :: u :: v :: u :: st) S I J r cu su
      | _ => False
    | 21 => match st with
      | v :: st => v.category = 1 ∧ K L st S I J r cu su
      | _ => False
    | 22 => match st with
      | .int x :: st => (icnd d x 0 → nx a L st S I J r cu su) ∧ (¬ icnd d x 0 → K L st S I J r cu su)
      | _ => False
    | 23 => match st with
      | .int y :: .int x :: st => (icnd d x y → nx a L st S I J r cu su) ∧ (¬ icnd d x y → K L st S I J r cu su)
      | _ => False
    | 24 => nx a L st S I J r cu su
    | 25 => match d, st with
      | 0, .null :: st => nx a L st S I J r cu su
      | 0, .ref _ :: st => K L st S I J r cu su
      | 1, .null :: st => K L st S I J r cu su
      | 1, .ref _ :: st => nx a L st S I J r cu su
      | _, _ => False
    | 26 => match st with
      | .int x :: st => xsw nx L st S I J r cu su x (xswt b).2 (xswt b).1
      | _ => False
    | 27 => match d, st with
      | 0, [.int x] => Q (some (.int x)) S I J r
      | 1, [.int x] => (x = 0 ∨ x = 1) ∧ Q (some (.int x)) S I J r
      | 2, [.long x] => Q (some (.long x)) S I J r
      | 3, [] => Q none S I J r
      | 4, [.int x] => x.toInt8.toInt32 = x ∧ Q (some (.int x)) S I J r
      | 5, [.int x] => x.toUInt32.toUInt16.toUInt32.toInt32 = x ∧ Q (some (.int x)) S I J r
      | _, _ => False
    | 28 => cu + 1 ≤ mc ∧ su + nfc b ≤ ms ∧ K L (.ref S.length :: st) (S ++ [(b, 0)]) (fun q k => if q = S.length then 0 else I q k) (fun q k => if q = S.length then 0 else J q k) (fun q k => if q = S.length then none else r q k) (cu + 1) (su + nfc b)
    | 29 => match st with
      | .int n :: st => 0 ≤ n ∧ n.toNatClampNeg ≤ 4000 ∧ cu + 1 ≤ mc ∧ su + n.toNatClampNeg ≤ ms ∧ K L (.ref S.length :: st) (S ++ [(b, n.toNatClampNeg)]) (fun q k => if q = S.length then 0 else I q k) (fun q k => if q = S.length then 0 else J q k) (fun q k => if q = S.length then none else r q k) (cu + 1) (su + n.toNatClampNeg)
      | _ => False
    | 30 => match st with
      | .int n :: st => 0 ≤ n ∧ n.toNatClampNeg ≤ 4000 ∧ cu + 1 ≤ mc ∧ su + n.toNatClampNeg ≤ ms ∧ K L (.ref S.length :: st) (S ++ [(103, n.toNatClampNeg)]) (fun q k => if q = S.length then 0 else I q k) (fun q k => if q = S.length then 0 else J q k) (fun q k => if q = S.length then none else r q k) (cu + 1) (su + n.toNatClampNeg)
      | _ => False
    | 31 => match st with
      | .int k :: .int n :: st => (∃ q n1 : Nat, S[q]? = some (101, n1)) ∧ n = 4 ∧ k = 60 ∧ cu + 5 ≤ mc ∧ su + 244 ≤ ms ∧ K L (.ref S.length :: st) (S ++ [(104, 4), (101, 60), (101, 60), (101, 60), (101, 60)]) (fun q k => if S.length ≤ q then 0 else I q k) (fun q k => if S.length ≤ q then 0 else J q k) (fun q k => if q = S.length then (if k < 4 then some (S.length + 1 + k) else none) else if S.length < q then none else r q k) (cu + 5) (su + 244)
      | _ => False
    | 32 => match st with
      | .ref q :: st => ∃ t n : Nat, S[q]? = some (t, n) ∧ 100 ≤ t ∧ K L (.int (nI n) :: st) S I J r cu su
      | _ => False
    | 33 => match st with
      | .int i :: .ref q :: st => ∃ n : Nat, S[q]? = some (100, n) ∧ vp_in i n ∧ K L (.int (I q i.toNatClampNeg) :: st) S I J r cu su
      | _ => False
    | 34 => match st with
      | .int x :: .int i :: .ref q :: st => ∃ n : Nat, S[q]? = some (100, n) ∧ vp_in i n ∧ K L st S (up2 I q i.toNatClampNeg x) J r cu su
      | _ => False
    | 35 => match st with
      | .int i :: .ref q :: st => ∃ n : Nat, S[q]? = some (101, n) ∧ vp_in i n ∧ K L (.long (J q i.toNatClampNeg) :: st) S I J r cu su
      | _ => False
    | 36 => match st with
      | .long x :: .int i :: .ref q :: st => ∃ n : Nat, S[q]? = some (101, n) ∧ vp_in i n ∧ K L st S I (up2 J q i.toNatClampNeg x) r cu su
      | _ => False
    | 37 => match st with
      | .int i :: .ref q :: st => ∃ n : Nat, S[q]? = some (102, n) ∧ vp_in i n ∧ K L (.int (I q i.toNatClampNeg) :: st) S I J r cu su
      | _ => False
    | 38 => match st with
      | .int x :: .int i :: .ref q :: st => ∃ n : Nat, S[q]? = some (102, n) ∧ vp_in i n ∧ K L st S (up2 I q i.toNatClampNeg x.toInt8.toInt32) J r cu su
      | _ => False
    | 39 => match st with
      | .int i :: .ref q :: st => ∃ t n : Nat, S[q]? = some (t, n) ∧ 103 ≤ t ∧ vp_in i n ∧ K L (va_rf (r q i.toNatClampNeg) :: st) S I J r cu su
      | _ => False
    | 40 => match st with
      | .ref v :: .int i :: .ref q :: st => ∃ n : Nat, S[q]? = some (103, n) ∧ S[v]? = some (0, 0) ∧ vp_in i n ∧ K L st S I J (up2 r q i.toNatClampNeg (some v)) cu su
      | _ => False
    | 42 => match st with
      | .ref q :: st => S[q]? = some (b, 0) ∧ K L (.int (I q d) :: st) S I J r cu su
      | _ => False
    | 43 => match st with
      | .ref q :: st => S[q]? = some (b, 0) ∧ K L (.long (J q d) :: st) S I J r cu su
      | _ => False
    | 44 => match st with
      | .ref q :: st => S[q]? = some (b, 0) ∧ ∃ v : Nat, r q d = some v ∧ K L (.ref v :: st) S I J r cu su
      | _ => False
    | 45 => match st with
      | .int x :: .ref q :: st => S[q]? = some (b, 0) ∧ K L st S (up2 I q d x) J r cu su
      | _ => False
    | 46 => match st with
      | .long x :: .ref q :: st => S[q]? = some (b, 0) ∧ K L st S I (up2 J q d x) r cu su
      | _ => False
    | 47 => match st with
      | .ref x :: .ref q :: st => S[q]? = some (b, 0) ∧ K L st S I J (up2 r q d (some x)) cu su
      | _ => False
    | 48 => n ≤ st.length ∧ xsz (st.drop n) ≤ 8 ∧ (d = 1 ∨ ∃ (q : Nat) (As : XV), (st.take n).reverse = .ref q :: As ∧ S[q]? = some (e, 0)) ∧
        cl b (st.take n).reverse S I J r (fun v S I J r => K L (v.toList ++ st.drop n) S I J r cu su)
    | 49 => match st with
      | .ref q :: st => xsz st ≤ 8 ∧ K L st S I J r cu su
      | _ => False
    | 50 => match st with
      | .int n :: .int dp :: .ref q1 :: .int sp :: .ref q0 :: st => xsz st ≤ 8 ∧ ∃ n0 n1 : Nat, S[q0]? = some (100 + d, n0) ∧ S[q1]? = some (100 + d, n1) ∧ 0 ≤ sp ∧ 0 ≤ dp ∧ 0 ≤ n ∧ sp.toNatClampNeg + n.toNatClampNeg ≤ n0 ∧ dp.toNatClampNeg + n.toNatClampNeg ≤ n1 ∧
          K L st S (if d = 1 then I else cp2 I q0 sp.toNatClampNeg q1 dp.toNatClampNeg n.toNatClampNeg) (if d = 1 then cp2 J q0 sp.toNatClampNeg q1 dp.toNatClampNeg n.toNatClampNeg else J) r cu su
      | _ => False
    | 51 => match st with
      | .retAddr i :: st => i < 29 ∧ K L (.retAddr (1000 + i) :: st) S I J r cu su
      | _ => False
    | 52 => match st with
      | .retAddr i :: st => i < 29 ∧ K L (.int 0 :: st) S I J r cu su
      | _ => False
    | 53 => match st with
      | .retAddr i :: st => i = 3000 ∧ K L (.int (nI sc.1) :: st) S I J r cu su
      | _ => False
    | 54 => match st with
      | .int j :: .retAddr i :: st => i = 3000 ∧ vp_in j sc.1 ∧ K L (.int (sc.2 j.toNatClampNeg) :: st) S I J r cu su
      | _ => False
    | 55 => cu + mck b ≤ mc ∧ su + msk b ≤ ms ∧ n ≤ st.length ∧ xsz (st.drop n) ≤ 8 ∧ (d = 1 ∨ ∃ (q : Nat) (As : XV), (st.take n).reverse = .ref q :: As ∧ S[q]? = some (e, 0)) ∧
        cl b (st.take n).reverse S I J r (fun v S I J r => K L (v.toList ++ st.drop n) S I J r (cu + mck b) (su + msk b))
    | 56 => match st with
      | .retAddr i :: st => 1000 ≤ i ∧ i < 1029 ∧ K L (.int (nI (strLen (i - 1000))) :: st) S I J r cu su
      | _ => False
    | 57 => match st with
      | .int j :: .retAddr i :: st => 1000 ≤ i ∧ i < 1029 ∧ vp_in j (strLen (i - 1000)) ∧ K L (.int (strAt (i - 1000) j.toNatClampNeg) :: st) S I J r cu su
      | _ => False
    | 58 => K L (.int 1 :: st) S I J r cu su
    | 59 => K L (.retAddr 2000 :: st) S I J r cu su
    | 60 => n ≤ st.length ∧ xsz (st.drop n) ≤ 8 ∧ (∃ (i : Nat) (As : XV), (st.take n).reverse = .retAddr i :: As ∧ i < 29) ∧
        cl b (st.take n).reverse S I J r (fun v S I J r => K L (v.toList ++ st.drop n) S I J r cu su)
    | 62 => match st with
      | .int i :: .ref q :: st => ∃ t n v : Nat, S[q]? = some (t, n) ∧ 103 ≤ t ∧ vp_in i n ∧ r q i.toNatClampNeg = some v ∧ K L (.ref v :: st) S I J r cu su
      | _ => False
    | 61 => match st with
      | .int x :: .ref q :: st => (x = 0 ∨ x = 1) ∧ S[q]? = some (b, 0) ∧ K L st S (up2 I q d x) J r cu su
      | _ => False
    | _ => False
def xwp (sc : Nat × (Nat → Int32)) (cl : XC) (nx : XN) (Q : XQ) (mc ms : Nat) : List XO → XK
  | [] => fun _ _ _ _ _ _ _ _ => False
  | i :: is => xst sc cl nx Q mc ms (xwp sc cl nx Q mc ms is) i
theorem o_0 {sc : Nat × (Nat → Int32)} {cl : XC} {nx : XN} {Q : XQ} {mc ms : Nat} {K : XK} {l a b d h n e : Nat} {z : Int32} {w : Int64} {L st : XV} {S : XS} {I : XI} {J : XJ} {r : XR} {cu su : Nat} : xst sc cl nx Q mc ms K (0, l, a, b, d, h, n, e, z, w) L st S I J r cu su = (K L (.int z :: st) S I J r cu su) := rfl
theorem o_1 {sc : Nat × (Nat → Int32)} {cl : XC} {nx : XN} {Q : XQ} {mc ms : Nat} {K : XK} {l a b d h n e : Nat} {z : Int32} {w : Int64} {L st : XV} {S : XS} {I : XI} {J : XJ} {r : XR} {cu su : Nat} : xst sc cl nx Q mc ms K (1, l, a, b, d, h, n, e, z, w) L st S I J r cu su = (K L (.long w :: st) S I J r cu su) := rfl
theorem o_2 {sc : Nat × (Nat → Int32)} {cl : XC} {nx : XN} {Q : XQ} {mc ms : Nat} {K : XK} {l a b d h n e : Nat} {z : Int32} {w : Int64} {L st : XV} {S : XS} {I : XI} {J : XJ} {r : XR} {cu su : Nat} : xst sc cl nx Q mc ms K (2, l, a, b, d, h, n, e, z, w) L st S I J r cu su = (K L (.retAddr b :: st) S I J r cu su) := rfl
theorem o_3 {sc : Nat × (Nat → Int32)} {cl : XC} {nx : XN} {Q : XQ} {mc ms : Nat} {K : XK} {l a b d h n e : Nat} {z : Int32} {w : Int64} {L st : XV} {S : XS} {I : XI} {J : XJ} {r : XR} {cu su : Nat} : xst sc cl nx Q mc ms K (3, l, a, b, d, h, n, e, z, w) L st S I J r cu su = (K L (.null :: st) S I J r cu su) := rfl
theorem o_4 {sc : Nat × (Nat → Int32)} {cl : XC} {nx : XN} {Q : XQ} {mc ms : Nat} {K : XK} {l a b d h n e : Nat} {z : Int32} {w : Int64} {L st : XV} {S : XS} {I : XI} {J : XJ} {r : XR} {cu su : Nat} : xst sc cl nx Q mc ms K (4, l, a, b, d, h, n, e, z, w) L st S I J r cu su = (match lget L a with
      | .int x => K L (.int x :: st) S I J r cu su
      | _ => False) := rfl
theorem o_5 {sc : Nat × (Nat → Int32)} {cl : XC} {nx : XN} {Q : XQ} {mc ms : Nat} {K : XK} {l a b d h n e : Nat} {z : Int32} {w : Int64} {L st : XV} {S : XS} {I : XI} {J : XJ} {r : XR} {cu su : Nat} : xst sc cl nx Q mc ms K (5, l, a, b, d, h, n, e, z, w) L st S I J r cu su = (match lget L a with
      | .long x => K L (.long x :: st) S I J r cu su
      | _ => False) := rfl
theorem o_6 {sc : Nat × (Nat → Int32)} {cl : XC} {nx : XN} {Q : XQ} {mc ms : Nat} {K : XK} {l a b d h n e : Nat} {z : Int32} {w : Int64} {L st : XV} {S : XS} {I : XI} {J : XJ} {r : XR} {cu su : Nat} : xst sc cl nx Q mc ms K (6, l, a, b, d, h, n, e, z, w) L st S I J r cu su = (match lget L a with
      | .ref x => K L (.ref x :: st) S I J r cu su
      | .retAddr x => K L (.retAddr x :: st) S I J r cu su
      | .null => K L (.null :: st) S I J r cu su
      | _ => False) := rfl
theorem o_7 {sc : Nat × (Nat → Int32)} {cl : XC} {nx : XN} {Q : XQ} {mc ms : Nat} {K : XK} {l a b d h n e : Nat} {z : Int32} {w : Int64} {L st : XV} {S : XS} {I : XI} {J : XJ} {r : XR} {cu su : Nat} {x : Int32} : xst sc cl nx Q mc ms K (7, l, a, b, d, h, n, e, z, w) L (.int x :: st) S I J r cu su = (K (lset1 L a (.int x)) st S I J r cu su) := rfl
theorem o_8 {sc : Nat × (Nat → Int32)} {cl : XC} {nx : XN} {Q : XQ} {mc ms : Nat} {K : XK} {l a b d h n e : Nat} {z : Int32} {w : Int64} {L st : XV} {S : XS} {I : XI} {J : XJ} {r : XR} {cu su : Nat} {x : Int64} : xst sc cl nx Q mc ms K (8, l, a, b, d, h, n, e, z, w) L (.long x :: st) S I J r cu su = (K (lset2 L a (.long x)) st S I J r cu su) := rfl
theorem o_9 {sc : Nat × (Nat → Int32)} {cl : XC} {nx : XN} {Q : XQ} {mc ms : Nat} {K : XK} {l a b d h n e : Nat} {z : Int32} {w : Int64} {L st : XV} {S : XS} {I : XI} {J : XJ} {r : XR} {cu su : Nat} {x : Nat} : xst sc cl nx Q mc ms K (9, l, a, b, d, h, n, e, z, w) L (.ref x :: st) S I J r cu su = (K (lset1 L a (.ref x)) st S I J r cu su) := rfl
theorem o_9n {sc : Nat × (Nat → Int32)} {cl : XC} {nx : XN} {Q : XQ} {mc ms : Nat} {K : XK} {l a b d h n e : Nat} {z : Int32} {w : Int64} {L st : XV} {S : XS} {I : XI} {J : XJ} {r : XR} {cu su : Nat}  : xst sc cl nx Q mc ms K (9, l, a, b, d, h, n, e, z, w) L (.null :: st) S I J r cu su = (K (lset1 L a .null) st S I J r cu su) := rfl
theorem o_10 {sc : Nat × (Nat → Int32)} {cl : XC} {nx : XN} {Q : XQ} {mc ms : Nat} {K : XK} {l a b d h n e : Nat} {z : Int32} {w : Int64} {L st : XV} {S : XS} {I : XI} {J : XJ} {r : XR} {cu su : Nat} : xst sc cl nx Q mc ms K (10, l, a, b, d, h, n, e, z, w) L st S I J r cu su = (match lget L a with
      | .int x => K (lset1 L a (.int (x + z))) st S I J r cu su
      | _ => False) := rfl
theorem o_11 {sc : Nat × (Nat → Int32)} {cl : XC} {nx : XN} {Q : XQ} {mc ms : Nat} {K : XK} {l a b d h n e : Nat} {z : Int32} {w : Int64} {L st : XV} {S : XS} {I : XI} {J : XJ} {r : XR} {cu su : Nat} {y : Int32} {x : Int32} : xst sc cl nx Q mc ms K (11, l, a, b, d, h, n, e, z, w) L (.int y :: .int x :: st) S I J r cu su = (K L (.int (ibin d x y) :: st) S I J r cu su) := rfl
theorem o_12 {sc : Nat × (Nat → Int32)} {cl : XC} {nx : XN} {Q : XQ} {mc ms : Nat} {K : XK} {l a b d h n e : Nat} {z : Int32} {w : Int64} {L st : XV} {S : XS} {I : XI} {J : XJ} {r : XR} {cu su : Nat} {y : Int32} {x : Int32} : xst sc cl nx Q mc ms K (12, l, a, b, d, h, n, e, z, w) L (.int y :: .int x :: st) S I J r cu su = (¬ y = 0 ∧ K L (.int (if d = 0 then x / y else x - x / y * y) :: st) S I J r cu su) := rfl
theorem o_13 {sc : Nat × (Nat → Int32)} {cl : XC} {nx : XN} {Q : XQ} {mc ms : Nat} {K : XK} {l a b d h n e : Nat} {z : Int32} {w : Int64} {L st : XV} {S : XS} {I : XI} {J : XJ} {r : XR} {cu su : Nat} {x : Int32} : xst sc cl nx Q mc ms K (13, l, a, b, d, h, n, e, z, w) L (.int x :: st) S I J r cu su = (K L (.int (-x) :: st) S I J r cu su) := rfl
theorem o_14 {sc : Nat × (Nat → Int32)} {cl : XC} {nx : XN} {Q : XQ} {mc ms : Nat} {K : XK} {l a b d h n e : Nat} {z : Int32} {w : Int64} {L st : XV} {S : XS} {I : XI} {J : XJ} {r : XR} {cu su : Nat} {y : Int64} {x : Int64} : xst sc cl nx Q mc ms K (14, l, a, b, d, h, n, e, z, w) L (.long y :: .long x :: st) S I J r cu su = (K L (.long (lbin d x y) :: st) S I J r cu su) := rfl
theorem o_15 {sc : Nat × (Nat → Int32)} {cl : XC} {nx : XN} {Q : XQ} {mc ms : Nat} {K : XK} {l a b d h n e : Nat} {z : Int32} {w : Int64} {L st : XV} {S : XS} {I : XI} {J : XJ} {r : XR} {cu su : Nat} {y : Int64} {x : Int64} : xst sc cl nx Q mc ms K (15, l, a, b, d, h, n, e, z, w) L (.long y :: .long x :: st) S I J r cu su = (¬ y = 0 ∧ K L (.long (if d = 0 then x / y else x - x / y * y) :: st) S I J r cu su) := rfl
theorem o_16 {sc : Nat × (Nat → Int32)} {cl : XC} {nx : XN} {Q : XQ} {mc ms : Nat} {K : XK} {l a b d h n e : Nat} {z : Int32} {w : Int64} {L st : XV} {S : XS} {I : XI} {J : XJ} {r : XR} {cu su : Nat} {y : Int32} {x : Int64} : xst sc cl nx Q mc ms K (16, l, a, b, d, h, n, e, z, w) L (.int y :: .long x :: st) S I J r cu su = (K L (.long (x <<< (y.toInt64 &&& 63)) :: st) S I J r cu su) := rfl
theorem o_17_0 {sc : Nat × (Nat → Int32)} {cl : XC} {nx : XN} {Q : XQ} {mc ms : Nat} {K : XK} {l a b h n e : Nat} {z : Int32} {w : Int64} {L st : XV} {S : XS} {I : XI} {J : XJ} {r : XR} {cu su : Nat} {x : Int32} : xst sc cl nx Q mc ms K (17, l, a, b, 0, h, n, e, z, w) L (.int x :: st) S I J r cu su = (K L (.long x.toInt64 :: st) S I J r cu su) := rfl
theorem o_17_1 {sc : Nat × (Nat → Int32)} {cl : XC} {nx : XN} {Q : XQ} {mc ms : Nat} {K : XK} {l a b h n e : Nat} {z : Int32} {w : Int64} {L st : XV} {S : XS} {I : XI} {J : XJ} {r : XR} {cu su : Nat} {x : Int64} : xst sc cl nx Q mc ms K (17, l, a, b, 1, h, n, e, z, w) L (.long x :: st) S I J r cu su = (K L (.int x.toInt32 :: st) S I J r cu su) := rfl
theorem o_17_2 {sc : Nat × (Nat → Int32)} {cl : XC} {nx : XN} {Q : XQ} {mc ms : Nat} {K : XK} {l a b h n e : Nat} {z : Int32} {w : Int64} {L st : XV} {S : XS} {I : XI} {J : XJ} {r : XR} {cu su : Nat} {x : Int32} : xst sc cl nx Q mc ms K (17, l, a, b, 2, h, n, e, z, w) L (.int x :: st) S I J r cu su = (K L (.int x.toInt8.toInt32 :: st) S I J r cu su) := rfl
theorem o_17_3 {sc : Nat × (Nat → Int32)} {cl : XC} {nx : XN} {Q : XQ} {mc ms : Nat} {K : XK} {l a b h n e : Nat} {z : Int32} {w : Int64} {L st : XV} {S : XS} {I : XI} {J : XJ} {r : XR} {cu su : Nat} {x : Int32} : xst sc cl nx Q mc ms K (17, l, a, b, 3, h, n, e, z, w) L (.int x :: st) S I J r cu su = (K L (.int x.toInt16.toInt32 :: st) S I J r cu su) := rfl
theorem o_17_4 {sc : Nat × (Nat → Int32)} {cl : XC} {nx : XN} {Q : XQ} {mc ms : Nat} {K : XK} {l a b h n e : Nat} {z : Int32} {w : Int64} {L st : XV} {S : XS} {I : XI} {J : XJ} {r : XR} {cu su : Nat} {x : Int32} : xst sc cl nx Q mc ms K (17, l, a, b, 4, h, n, e, z, w) L (.int x :: st) S I J r cu su = (K L (.int (x.toUInt32 % 65536).toInt32 :: st) S I J r cu su) := rfl
theorem o_17_5 {sc : Nat × (Nat → Int32)} {cl : XC} {nx : XN} {Q : XQ} {mc ms : Nat} {K : XK} {l a b h n e : Nat} {z : Int32} {w : Int64} {L st : XV} {S : XS} {I : XI} {J : XJ} {r : XR} {cu su : Nat} {x : Int64} : xst sc cl nx Q mc ms K (17, l, a, b, 5, h, n, e, z, w) L (.long x :: st) S I J r cu su = (K L (.long (-x) :: st) S I J r cu su) := rfl
theorem o_18 {sc : Nat × (Nat → Int32)} {cl : XC} {nx : XN} {Q : XQ} {mc ms : Nat} {K : XK} {l a b d h n e : Nat} {z : Int32} {w : Int64} {L st : XV} {S : XS} {I : XI} {J : XJ} {r : XR} {cu su : Nat} {y : Int64} {x : Int64} : xst sc cl nx Q mc ms K (18, l, a, b, d, h, n, e, z, w) L (.long y :: .long x :: st) S I J r cu su = (K L (.int (lg_cmp x y) :: st) S I J r cu su) := rfl
theorem o_19 {sc : Nat × (Nat → Int32)} {cl : XC} {nx : XN} {Q : XQ} {mc ms : Nat} {K : XK} {l a b d h n e : Nat} {z : Int32} {w : Int64} {L st : XV} {S : XS} {I : XI} {J : XJ} {r : XR} {cu su : Nat} {v u : Value} : xst sc cl nx Q mc ms K (19, l, a, b, d, h, n, e, z, w) L (v :: st) S I J r cu su = (v.category = 1 ∧ K L (v :: v :: st) S I J r cu su) := rfl
theorem o_20 {sc : Nat × (Nat → Int32)} {cl : XC} {nx : XN} {Q : XQ} {mc ms : Nat} {K : XK} {l a b d h n e : Nat} {z : Int32} {w : Int64} {L st : XV} {S : XS} {I : XI} {J : XJ} {r : XR} {cu su : Nat} {v u : Value} : xst sc cl nx Q mc ms K (20, l, a, b, d, h, n, e, z, w) L (v :: u :: st) S I J r cu su = (v.category = 1 ∧ u.category = 1 ∧ K L (v :: u :: v :: u :: st) S I J r cu su) := rfl
theorem o_21 {sc : Nat × (Nat → Int32)} {cl : XC} {nx : XN} {Q : XQ} {mc ms : Nat} {K : XK} {l a b d h n e : Nat} {z : Int32} {w : Int64} {L st : XV} {S : XS} {I : XI} {J : XJ} {r : XR} {cu su : Nat} {v u : Value} : xst sc cl nx Q mc ms K (21, l, a, b, d, h, n, e, z, w) L (v :: st) S I J r cu su = (v.category = 1 ∧ K L st S I J r cu su) := rfl
theorem o_22 {sc : Nat × (Nat → Int32)} {cl : XC} {nx : XN} {Q : XQ} {mc ms : Nat} {K : XK} {l a b d h n e : Nat} {z : Int32} {w : Int64} {L st : XV} {S : XS} {I : XI} {J : XJ} {r : XR} {cu su : Nat} {x : Int32} : xst sc cl nx Q mc ms K (22, l, a, b, d, h, n, e, z, w) L (.int x :: st) S I J r cu su = ((icnd d x 0 → nx a L st S I J r cu su) ∧ (¬ icnd d x 0 → K L st S I J r cu su)) := rfl
theorem o_23 {sc : Nat × (Nat → Int32)} {cl : XC} {nx : XN} {Q : XQ} {mc ms : Nat} {K : XK} {l a b d h n e : Nat} {z : Int32} {w : Int64} {L st : XV} {S : XS} {I : XI} {J : XJ} {r : XR} {cu su : Nat} {y : Int32} {x : Int32} : xst sc cl nx Q mc ms K (23, l, a, b, d, h, n, e, z, w) L (.int y :: .int x :: st) S I J r cu su = ((icnd d x y → nx a L st S I J r cu su) ∧ (¬ icnd d x y → K L st S I J r cu su)) := rfl
theorem o_24 {sc : Nat × (Nat → Int32)} {cl : XC} {nx : XN} {Q : XQ} {mc ms : Nat} {K : XK} {l a b d h n e : Nat} {z : Int32} {w : Int64} {L st : XV} {S : XS} {I : XI} {J : XJ} {r : XR} {cu su : Nat} : xst sc cl nx Q mc ms K (24, l, a, b, d, h, n, e, z, w) L st S I J r cu su = (nx a L st S I J r cu su) := rfl
theorem o_25_0 {sc : Nat × (Nat → Int32)} {cl : XC} {nx : XN} {Q : XQ} {mc ms : Nat} {K : XK} {l a b h n e : Nat} {z : Int32} {w : Int64} {L st : XV} {S : XS} {I : XI} {J : XJ} {r : XR} {cu su : Nat}  : xst sc cl nx Q mc ms K (25, l, a, b, 0, h, n, e, z, w) L (.null :: st) S I J r cu su = (nx a L st S I J r cu su) := rfl
theorem o_25_1 {sc : Nat × (Nat → Int32)} {cl : XC} {nx : XN} {Q : XQ} {mc ms : Nat} {K : XK} {l a b h n e : Nat} {z : Int32} {w : Int64} {L st : XV} {S : XS} {I : XI} {J : XJ} {r : XR} {cu su : Nat} {x : Nat} : xst sc cl nx Q mc ms K (25, l, a, b, 0, h, n, e, z, w) L (.ref x :: st) S I J r cu su = (K L st S I J r cu su) := rfl
theorem o_25_2 {sc : Nat × (Nat → Int32)} {cl : XC} {nx : XN} {Q : XQ} {mc ms : Nat} {K : XK} {l a b h n e : Nat} {z : Int32} {w : Int64} {L st : XV} {S : XS} {I : XI} {J : XJ} {r : XR} {cu su : Nat}  : xst sc cl nx Q mc ms K (25, l, a, b, 1, h, n, e, z, w) L (.null :: st) S I J r cu su = (K L st S I J r cu su) := rfl
theorem o_25_3 {sc : Nat × (Nat → Int32)} {cl : XC} {nx : XN} {Q : XQ} {mc ms : Nat} {K : XK} {l a b h n e : Nat} {z : Int32} {w : Int64} {L st : XV} {S : XS} {I : XI} {J : XJ} {r : XR} {cu su : Nat} {x : Nat} : xst sc cl nx Q mc ms K (25, l, a, b, 1, h, n, e, z, w) L (.ref x :: st) S I J r cu su = (nx a L st S I J r cu su) := rfl
theorem o_26 {sc : Nat × (Nat → Int32)} {cl : XC} {nx : XN} {Q : XQ} {mc ms : Nat} {K : XK} {l a b d h n e : Nat} {z : Int32} {w : Int64} {L st : XV} {S : XS} {I : XI} {J : XJ} {r : XR} {cu su : Nat} {x : Int32} : xst sc cl nx Q mc ms K (26, l, a, b, d, h, n, e, z, w) L (.int x :: st) S I J r cu su = (xsw nx L st S I J r cu su x (xswt b).2 (xswt b).1) := rfl
theorem o_27_0 {sc : Nat × (Nat → Int32)} {cl : XC} {nx : XN} {Q : XQ} {mc ms : Nat} {K : XK} {l a b h n e : Nat} {z : Int32} {w : Int64} {L st : XV} {S : XS} {I : XI} {J : XJ} {r : XR} {cu su : Nat} {x : Int32} : xst sc cl nx Q mc ms K (27, l, a, b, 0, h, n, e, z, w) L ([.int x]) S I J r cu su = (Q (some (.int x)) S I J r) := rfl
theorem o_27_1 {sc : Nat × (Nat → Int32)} {cl : XC} {nx : XN} {Q : XQ} {mc ms : Nat} {K : XK} {l a b h n e : Nat} {z : Int32} {w : Int64} {L st : XV} {S : XS} {I : XI} {J : XJ} {r : XR} {cu su : Nat} {x : Int32} : xst sc cl nx Q mc ms K (27, l, a, b, 1, h, n, e, z, w) L ([.int x]) S I J r cu su = ((x = 0 ∨ x = 1) ∧ Q (some (.int x)) S I J r) := rfl
theorem o_27_2 {sc : Nat × (Nat → Int32)} {cl : XC} {nx : XN} {Q : XQ} {mc ms : Nat} {K : XK} {l a b h n e : Nat} {z : Int32} {w : Int64} {L st : XV} {S : XS} {I : XI} {J : XJ} {r : XR} {cu su : Nat} {x : Int64} : xst sc cl nx Q mc ms K (27, l, a, b, 2, h, n, e, z, w) L ([.long x]) S I J r cu su = (Q (some (.long x)) S I J r) := rfl
theorem o_27_3 {sc : Nat × (Nat → Int32)} {cl : XC} {nx : XN} {Q : XQ} {mc ms : Nat} {K : XK} {l a b h n e : Nat} {z : Int32} {w : Int64} {L st : XV} {S : XS} {I : XI} {J : XJ} {r : XR} {cu su : Nat}  : xst sc cl nx Q mc ms K (27, l, a, b, 3, h, n, e, z, w) L ([]) S I J r cu su = (Q none S I J r) := rfl
theorem o_27_4 {sc : Nat × (Nat → Int32)} {cl : XC} {nx : XN} {Q : XQ} {mc ms : Nat} {K : XK} {l a b h n e : Nat} {z : Int32} {w : Int64} {L st : XV} {S : XS} {I : XI} {J : XJ} {r : XR} {cu su : Nat} {x : Int32} : xst sc cl nx Q mc ms K (27, l, a, b, 4, h, n, e, z, w) L ([.int x]) S I J r cu su = (x.toInt8.toInt32 = x ∧ Q (some (.int x)) S I J r) := rfl
theorem o_27_5 {sc : Nat × (Nat → Int32)} {cl : XC} {nx : XN} {Q : XQ} {mc ms : Nat} {K : XK} {l a b h n e : Nat} {z : Int32} {w : Int64} {L st : XV} {S : XS} {I : XI} {J : XJ} {r : XR} {cu su : Nat} {x : Int32} : xst sc cl nx Q mc ms K (27, l, a, b, 5, h, n, e, z, w) L ([.int x]) S I J r cu su = (x.toUInt32.toUInt16.toUInt32.toInt32 = x ∧ Q (some (.int x)) S I J r) := rfl
theorem o_28 {sc : Nat × (Nat → Int32)} {cl : XC} {nx : XN} {Q : XQ} {mc ms : Nat} {K : XK} {l a b d h n e : Nat} {z : Int32} {w : Int64} {L st : XV} {S : XS} {I : XI} {J : XJ} {r : XR} {cu su : Nat} : xst sc cl nx Q mc ms K (28, l, a, b, d, h, n, e, z, w) L st S I J r cu su = (cu + 1 ≤ mc ∧ su + nfc b ≤ ms ∧ K L (.ref S.length :: st) (S ++ [(b, 0)]) (fun q k => if q = S.length then 0 else I q k) (fun q k => if q = S.length then 0 else J q k) (fun q k => if q = S.length then none else r q k) (cu + 1) (su + nfc b)) := rfl
theorem o_29 {sc : Nat × (Nat → Int32)} {cl : XC} {nx : XN} {Q : XQ} {mc ms : Nat} {K : XK} {l a b d h n0 e : Nat} {z : Int32} {w : Int64} {L st : XV} {S : XS} {I : XI} {J : XJ} {r : XR} {cu su : Nat} {n : Int32} : xst sc cl nx Q mc ms K (29, l, a, b, d, h, n0, e, z, w) L (.int n :: st) S I J r cu su = (0 ≤ n ∧ n.toNatClampNeg ≤ 4000 ∧ cu + 1 ≤ mc ∧ su + n.toNatClampNeg ≤ ms ∧ K L (.ref S.length :: st) (S ++ [(b, n.toNatClampNeg)]) (fun q k => if q = S.length then 0 else I q k) (fun q k => if q = S.length then 0 else J q k) (fun q k => if q = S.length then none else r q k) (cu + 1) (su + n.toNatClampNeg)) := rfl
theorem o_30 {sc : Nat × (Nat → Int32)} {cl : XC} {nx : XN} {Q : XQ} {mc ms : Nat} {K : XK} {l a b d h n0 e : Nat} {z : Int32} {w : Int64} {L st : XV} {S : XS} {I : XI} {J : XJ} {r : XR} {cu su : Nat} {n : Int32} : xst sc cl nx Q mc ms K (30, l, a, b, d, h, n0, e, z, w) L (.int n :: st) S I J r cu su = (0 ≤ n ∧ n.toNatClampNeg ≤ 4000 ∧ cu + 1 ≤ mc ∧ su + n.toNatClampNeg ≤ ms ∧ K L (.ref S.length :: st) (S ++ [(103, n.toNatClampNeg)]) (fun q k => if q = S.length then 0 else I q k) (fun q k => if q = S.length then 0 else J q k) (fun q k => if q = S.length then none else r q k) (cu + 1) (su + n.toNatClampNeg)) := rfl
theorem o_31 {sc : Nat × (Nat → Int32)} {cl : XC} {nx : XN} {Q : XQ} {mc ms : Nat} {K : XK} {l a b d h n0 e : Nat} {z : Int32} {w : Int64} {L st : XV} {S : XS} {I : XI} {J : XJ} {r : XR} {cu su : Nat} {k : Int32} {n : Int32} : xst sc cl nx Q mc ms K (31, l, a, b, d, h, n0, e, z, w) L (.int k :: .int n :: st) S I J r cu su = ((∃ q n1 : Nat, S[q]? = some (101, n1)) ∧ n = 4 ∧ k = 60 ∧ cu + 5 ≤ mc ∧ su + 244 ≤ ms ∧ K L (.ref S.length :: st) (S ++ [(104, 4), (101, 60), (101, 60), (101, 60), (101, 60)]) (fun q k => if S.length ≤ q then 0 else I q k) (fun q k => if S.length ≤ q then 0 else J q k) (fun q k => if q = S.length then (if k < 4 then some (S.length + 1 + k) else none) else if S.length < q then none else r q k) (cu + 5) (su + 244)) := rfl
theorem o_32 {sc : Nat × (Nat → Int32)} {cl : XC} {nx : XN} {Q : XQ} {mc ms : Nat} {K : XK} {l a b d h n e : Nat} {z : Int32} {w : Int64} {L st : XV} {S : XS} {I : XI} {J : XJ} {r : XR} {cu su : Nat} {q : Nat} : xst sc cl nx Q mc ms K (32, l, a, b, d, h, n, e, z, w) L (.ref q :: st) S I J r cu su = (∃ t n : Nat, S[q]? = some (t, n) ∧ 100 ≤ t ∧ K L (.int (nI n) :: st) S I J r cu su) := rfl
theorem o_33 {sc : Nat × (Nat → Int32)} {cl : XC} {nx : XN} {Q : XQ} {mc ms : Nat} {K : XK} {l a b d h n e : Nat} {z : Int32} {w : Int64} {L st : XV} {S : XS} {I : XI} {J : XJ} {r : XR} {cu su : Nat} {i : Int32} {q : Nat} : xst sc cl nx Q mc ms K (33, l, a, b, d, h, n, e, z, w) L (.int i :: .ref q :: st) S I J r cu su = (∃ n : Nat, S[q]? = some (100, n) ∧ vp_in i n ∧ K L (.int (I q i.toNatClampNeg) :: st) S I J r cu su) := rfl
theorem o_34 {sc : Nat × (Nat → Int32)} {cl : XC} {nx : XN} {Q : XQ} {mc ms : Nat} {K : XK} {l a b d h n e : Nat} {z : Int32} {w : Int64} {L st : XV} {S : XS} {I : XI} {J : XJ} {r : XR} {cu su : Nat} {x : Int32} {i : Int32} {q : Nat} : xst sc cl nx Q mc ms K (34, l, a, b, d, h, n, e, z, w) L (.int x :: .int i :: .ref q :: st) S I J r cu su = (∃ n : Nat, S[q]? = some (100, n) ∧ vp_in i n ∧ K L st S (up2 I q i.toNatClampNeg x) J r cu su) := rfl
theorem o_35 {sc : Nat × (Nat → Int32)} {cl : XC} {nx : XN} {Q : XQ} {mc ms : Nat} {K : XK} {l a b d h n e : Nat} {z : Int32} {w : Int64} {L st : XV} {S : XS} {I : XI} {J : XJ} {r : XR} {cu su : Nat} {i : Int32} {q : Nat} : xst sc cl nx Q mc ms K (35, l, a, b, d, h, n, e, z, w) L (.int i :: .ref q :: st) S I J r cu su = (∃ n : Nat, S[q]? = some (101, n) ∧ vp_in i n ∧ K L (.long (J q i.toNatClampNeg) :: st) S I J r cu su) := rfl
theorem o_36 {sc : Nat × (Nat → Int32)} {cl : XC} {nx : XN} {Q : XQ} {mc ms : Nat} {K : XK} {l a b d h n e : Nat} {z : Int32} {w : Int64} {L st : XV} {S : XS} {I : XI} {J : XJ} {r : XR} {cu su : Nat} {x : Int64} {i : Int32} {q : Nat} : xst sc cl nx Q mc ms K (36, l, a, b, d, h, n, e, z, w) L (.long x :: .int i :: .ref q :: st) S I J r cu su = (∃ n : Nat, S[q]? = some (101, n) ∧ vp_in i n ∧ K L st S I (up2 J q i.toNatClampNeg x) r cu su) := rfl
theorem o_37 {sc : Nat × (Nat → Int32)} {cl : XC} {nx : XN} {Q : XQ} {mc ms : Nat} {K : XK} {l a b d h n e : Nat} {z : Int32} {w : Int64} {L st : XV} {S : XS} {I : XI} {J : XJ} {r : XR} {cu su : Nat} {i : Int32} {q : Nat} : xst sc cl nx Q mc ms K (37, l, a, b, d, h, n, e, z, w) L (.int i :: .ref q :: st) S I J r cu su = (∃ n : Nat, S[q]? = some (102, n) ∧ vp_in i n ∧ K L (.int (I q i.toNatClampNeg) :: st) S I J r cu su) := rfl
theorem o_38 {sc : Nat × (Nat → Int32)} {cl : XC} {nx : XN} {Q : XQ} {mc ms : Nat} {K : XK} {l a b d h n e : Nat} {z : Int32} {w : Int64} {L st : XV} {S : XS} {I : XI} {J : XJ} {r : XR} {cu su : Nat} {x : Int32} {i : Int32} {q : Nat} : xst sc cl nx Q mc ms K (38, l, a, b, d, h, n, e, z, w) L (.int x :: .int i :: .ref q :: st) S I J r cu su = (∃ n : Nat, S[q]? = some (102, n) ∧ vp_in i n ∧ K L st S (up2 I q i.toNatClampNeg x.toInt8.toInt32) J r cu su) := rfl
theorem o_39 {sc : Nat × (Nat → Int32)} {cl : XC} {nx : XN} {Q : XQ} {mc ms : Nat} {K : XK} {l a b d h n e : Nat} {z : Int32} {w : Int64} {L st : XV} {S : XS} {I : XI} {J : XJ} {r : XR} {cu su : Nat} {i : Int32} {q : Nat} : xst sc cl nx Q mc ms K (39, l, a, b, d, h, n, e, z, w) L (.int i :: .ref q :: st) S I J r cu su = (∃ t n : Nat, S[q]? = some (t, n) ∧ 103 ≤ t ∧ vp_in i n ∧ K L (va_rf (r q i.toNatClampNeg) :: st) S I J r cu su) := rfl
theorem o_40 {sc : Nat × (Nat → Int32)} {cl : XC} {nx : XN} {Q : XQ} {mc ms : Nat} {K : XK} {l a b d h n e : Nat} {z : Int32} {w : Int64} {L st : XV} {S : XS} {I : XI} {J : XJ} {r : XR} {cu su : Nat} {v : Nat} {i : Int32} {q : Nat} : xst sc cl nx Q mc ms K (40, l, a, b, d, h, n, e, z, w) L (.ref v :: .int i :: .ref q :: st) S I J r cu su = (∃ n : Nat, S[q]? = some (103, n) ∧ S[v]? = some (0, 0) ∧ vp_in i n ∧ K L st S I J (up2 r q i.toNatClampNeg (some v)) cu su) := rfl
theorem o_42 {sc : Nat × (Nat → Int32)} {cl : XC} {nx : XN} {Q : XQ} {mc ms : Nat} {K : XK} {l a b d h n e : Nat} {z : Int32} {w : Int64} {L st : XV} {S : XS} {I : XI} {J : XJ} {r : XR} {cu su : Nat} {q : Nat} : xst sc cl nx Q mc ms K (42, l, a, b, d, h, n, e, z, w) L (.ref q :: st) S I J r cu su = (S[q]? = some (b, 0) ∧ K L (.int (I q d) :: st) S I J r cu su) := rfl
theorem o_43 {sc : Nat × (Nat → Int32)} {cl : XC} {nx : XN} {Q : XQ} {mc ms : Nat} {K : XK} {l a b d h n e : Nat} {z : Int32} {w : Int64} {L st : XV} {S : XS} {I : XI} {J : XJ} {r : XR} {cu su : Nat} {q : Nat} : xst sc cl nx Q mc ms K (43, l, a, b, d, h, n, e, z, w) L (.ref q :: st) S I J r cu su = (S[q]? = some (b, 0) ∧ K L (.long (J q d) :: st) S I J r cu su) := rfl
theorem o_44 {sc : Nat × (Nat → Int32)} {cl : XC} {nx : XN} {Q : XQ} {mc ms : Nat} {K : XK} {l a b d h n e : Nat} {z : Int32} {w : Int64} {L st : XV} {S : XS} {I : XI} {J : XJ} {r : XR} {cu su : Nat} {q : Nat} : xst sc cl nx Q mc ms K (44, l, a, b, d, h, n, e, z, w) L (.ref q :: st) S I J r cu su = (S[q]? = some (b, 0) ∧ ∃ v : Nat, r q d = some v ∧ K L (.ref v :: st) S I J r cu su) := rfl
theorem o_45 {sc : Nat × (Nat → Int32)} {cl : XC} {nx : XN} {Q : XQ} {mc ms : Nat} {K : XK} {l a b d h n e : Nat} {z : Int32} {w : Int64} {L st : XV} {S : XS} {I : XI} {J : XJ} {r : XR} {cu su : Nat} {x : Int32} {q : Nat} : xst sc cl nx Q mc ms K (45, l, a, b, d, h, n, e, z, w) L (.int x :: .ref q :: st) S I J r cu su = (S[q]? = some (b, 0) ∧ K L st S (up2 I q d x) J r cu su) := rfl
theorem o_46 {sc : Nat × (Nat → Int32)} {cl : XC} {nx : XN} {Q : XQ} {mc ms : Nat} {K : XK} {l a b d h n e : Nat} {z : Int32} {w : Int64} {L st : XV} {S : XS} {I : XI} {J : XJ} {r : XR} {cu su : Nat} {x : Int64} {q : Nat} : xst sc cl nx Q mc ms K (46, l, a, b, d, h, n, e, z, w) L (.long x :: .ref q :: st) S I J r cu su = (S[q]? = some (b, 0) ∧ K L st S I (up2 J q d x) r cu su) := rfl
theorem o_47 {sc : Nat × (Nat → Int32)} {cl : XC} {nx : XN} {Q : XQ} {mc ms : Nat} {K : XK} {l a b d h n e : Nat} {z : Int32} {w : Int64} {L st : XV} {S : XS} {I : XI} {J : XJ} {r : XR} {cu su : Nat} {x : Nat} {q : Nat} : xst sc cl nx Q mc ms K (47, l, a, b, d, h, n, e, z, w) L (.ref x :: .ref q :: st) S I J r cu su = (S[q]? = some (b, 0) ∧ K L st S I J (up2 r q d (some x)) cu su) := rfl
theorem o_48 {sc : Nat × (Nat → Int32)} {cl : XC} {nx : XN} {Q : XQ} {mc ms : Nat} {K : XK} {l a b d h n e : Nat} {z : Int32} {w : Int64} {L st : XV} {S : XS} {I : XI} {J : XJ} {r : XR} {cu su : Nat} : xst sc cl nx Q mc ms K (48, l, a, b, d, h, n, e, z, w) L st S I J r cu su = (n ≤ st.length ∧ xsz (st.drop n) ≤ 8 ∧ (d = 1 ∨ ∃ (q : Nat) (As : XV), (st.take n).reverse = .ref q :: As ∧ S[q]? = some (e, 0)) ∧
        cl b (st.take n).reverse S I J r (fun v S I J r => K L (v.toList ++ st.drop n) S I J r cu su)) := rfl
theorem o_49 {sc : Nat × (Nat → Int32)} {cl : XC} {nx : XN} {Q : XQ} {mc ms : Nat} {K : XK} {l a b d h n e : Nat} {z : Int32} {w : Int64} {L st : XV} {S : XS} {I : XI} {J : XJ} {r : XR} {cu su : Nat} {q : Nat} : xst sc cl nx Q mc ms K (49, l, a, b, d, h, n, e, z, w) L (.ref q :: st) S I J r cu su = (xsz st ≤ 8 ∧ K L st S I J r cu su) := rfl
theorem o_50 {sc : Nat × (Nat → Int32)} {cl : XC} {nx : XN} {Q : XQ} {mc ms : Nat} {K : XK} {l a b d h n0 e : Nat} {z : Int32} {w : Int64} {L st : XV} {S : XS} {I : XI} {J : XJ} {r : XR} {cu su : Nat} {n : Int32} {dp : Int32} {q1 : Nat} {sp : Int32} {q0 : Nat} : xst sc cl nx Q mc ms K (50, l, a, b, d, h, n0, e, z, w) L (.int n :: .int dp :: .ref q1 :: .int sp :: .ref q0 :: st) S I J r cu su = (xsz st ≤ 8 ∧ ∃ n0 n1 : Nat, S[q0]? = some (100 + d, n0) ∧ S[q1]? = some (100 + d, n1) ∧ 0 ≤ sp ∧ 0 ≤ dp ∧ 0 ≤ n ∧ sp.toNatClampNeg + n.toNatClampNeg ≤ n0 ∧ dp.toNatClampNeg + n.toNatClampNeg ≤ n1 ∧
          K L st S (if d = 1 then I else cp2 I q0 sp.toNatClampNeg q1 dp.toNatClampNeg n.toNatClampNeg) (if d = 1 then cp2 J q0 sp.toNatClampNeg q1 dp.toNatClampNeg n.toNatClampNeg else J) r cu su) := rfl
theorem o_51 {sc : Nat × (Nat → Int32)} {cl : XC} {nx : XN} {Q : XQ} {mc ms : Nat} {K : XK} {l a b d h n e : Nat} {z : Int32} {w : Int64} {L st : XV} {S : XS} {I : XI} {J : XJ} {r : XR} {cu su : Nat} {i : Nat} : xst sc cl nx Q mc ms K (51, l, a, b, d, h, n, e, z, w) L (.retAddr i :: st) S I J r cu su = (i < 29 ∧ K L (.retAddr (1000 + i) :: st) S I J r cu su) := rfl
theorem o_52 {sc : Nat × (Nat → Int32)} {cl : XC} {nx : XN} {Q : XQ} {mc ms : Nat} {K : XK} {l a b d h n e : Nat} {z : Int32} {w : Int64} {L st : XV} {S : XS} {I : XI} {J : XJ} {r : XR} {cu su : Nat} {i : Nat} : xst sc cl nx Q mc ms K (52, l, a, b, d, h, n, e, z, w) L (.retAddr i :: st) S I J r cu su = (i < 29 ∧ K L (.int 0 :: st) S I J r cu su) := rfl
theorem o_53 {sc : Nat × (Nat → Int32)} {cl : XC} {nx : XN} {Q : XQ} {mc ms : Nat} {K : XK} {l a b d h n e : Nat} {z : Int32} {w : Int64} {L st : XV} {S : XS} {I : XI} {J : XJ} {r : XR} {cu su : Nat} {i : Nat} : xst sc cl nx Q mc ms K (53, l, a, b, d, h, n, e, z, w) L (.retAddr i :: st) S I J r cu su = (i = 3000 ∧ K L (.int (nI sc.1) :: st) S I J r cu su) := rfl
theorem o_54 {sc : Nat × (Nat → Int32)} {cl : XC} {nx : XN} {Q : XQ} {mc ms : Nat} {K : XK} {l a b d h n e : Nat} {z : Int32} {w : Int64} {L st : XV} {S : XS} {I : XI} {J : XJ} {r : XR} {cu su : Nat} {j : Int32} {i : Nat} : xst sc cl nx Q mc ms K (54, l, a, b, d, h, n, e, z, w) L (.int j :: .retAddr i :: st) S I J r cu su = (i = 3000 ∧ vp_in j sc.1 ∧ K L (.int (sc.2 j.toNatClampNeg) :: st) S I J r cu su) := rfl
theorem o_55 {sc : Nat × (Nat → Int32)} {cl : XC} {nx : XN} {Q : XQ} {mc ms : Nat} {K : XK} {l a b d h n e : Nat} {z : Int32} {w : Int64} {L st : XV} {S : XS} {I : XI} {J : XJ} {r : XR} {cu su : Nat} : xst sc cl nx Q mc ms K (55, l, a, b, d, h, n, e, z, w) L st S I J r cu su = (cu + mck b ≤ mc ∧ su + msk b ≤ ms ∧ n ≤ st.length ∧ xsz (st.drop n) ≤ 8 ∧ (d = 1 ∨ ∃ (q : Nat) (As : XV), (st.take n).reverse = .ref q :: As ∧ S[q]? = some (e, 0)) ∧
        cl b (st.take n).reverse S I J r (fun v S I J r => K L (v.toList ++ st.drop n) S I J r (cu + mck b) (su + msk b))) := rfl
theorem o_56 {sc : Nat × (Nat → Int32)} {cl : XC} {nx : XN} {Q : XQ} {mc ms : Nat} {K : XK} {l a b d h n e : Nat} {z : Int32} {w : Int64} {L st : XV} {S : XS} {I : XI} {J : XJ} {r : XR} {cu su : Nat} {i : Nat} : xst sc cl nx Q mc ms K (56, l, a, b, d, h, n, e, z, w) L (.retAddr i :: st) S I J r cu su = (1000 ≤ i ∧ i < 1029 ∧ K L (.int (nI (strLen (i - 1000))) :: st) S I J r cu su) := rfl
theorem o_57 {sc : Nat × (Nat → Int32)} {cl : XC} {nx : XN} {Q : XQ} {mc ms : Nat} {K : XK} {l a b d h n e : Nat} {z : Int32} {w : Int64} {L st : XV} {S : XS} {I : XI} {J : XJ} {r : XR} {cu su : Nat} {j : Int32} {i : Nat} : xst sc cl nx Q mc ms K (57, l, a, b, d, h, n, e, z, w) L (.int j :: .retAddr i :: st) S I J r cu su = (1000 ≤ i ∧ i < 1029 ∧ vp_in j (strLen (i - 1000)) ∧ K L (.int (strAt (i - 1000) j.toNatClampNeg) :: st) S I J r cu su) := rfl
theorem o_58 {sc : Nat × (Nat → Int32)} {cl : XC} {nx : XN} {Q : XQ} {mc ms : Nat} {K : XK} {l a b d h n e : Nat} {z : Int32} {w : Int64} {L st : XV} {S : XS} {I : XI} {J : XJ} {r : XR} {cu su : Nat} : xst sc cl nx Q mc ms K (58, l, a, b, d, h, n, e, z, w) L st S I J r cu su = (K L (.int 1 :: st) S I J r cu su) := rfl
theorem o_59 {sc : Nat × (Nat → Int32)} {cl : XC} {nx : XN} {Q : XQ} {mc ms : Nat} {K : XK} {l a b d h n e : Nat} {z : Int32} {w : Int64} {L st : XV} {S : XS} {I : XI} {J : XJ} {r : XR} {cu su : Nat} : xst sc cl nx Q mc ms K (59, l, a, b, d, h, n, e, z, w) L st S I J r cu su = (K L (.retAddr 2000 :: st) S I J r cu su) := rfl
theorem o_60 {sc : Nat × (Nat → Int32)} {cl : XC} {nx : XN} {Q : XQ} {mc ms : Nat} {K : XK} {l a b d h n e : Nat} {z : Int32} {w : Int64} {L st : XV} {S : XS} {I : XI} {J : XJ} {r : XR} {cu su : Nat} : xst sc cl nx Q mc ms K (60, l, a, b, d, h, n, e, z, w) L st S I J r cu su = (n ≤ st.length ∧ xsz (st.drop n) ≤ 8 ∧ (∃ (i : Nat) (As : XV), (st.take n).reverse = .retAddr i :: As ∧ i < 29) ∧
        cl b (st.take n).reverse S I J r (fun v S I J r => K L (v.toList ++ st.drop n) S I J r cu su)) := rfl
theorem o_62 {sc : Nat × (Nat → Int32)} {cl : XC} {nx : XN} {Q : XQ} {mc ms : Nat} {K : XK} {l a b d h n e : Nat} {z : Int32} {w : Int64} {L st : XV} {S : XS} {I : XI} {J : XJ} {r : XR} {cu su : Nat} {i : Int32} {q : Nat} : xst sc cl nx Q mc ms K (62, l, a, b, d, h, n, e, z, w) L (.int i :: .ref q :: st) S I J r cu su = (∃ t n v : Nat, S[q]? = some (t, n) ∧ 103 ≤ t ∧ vp_in i n ∧ r q i.toNatClampNeg = some v ∧ K L (.ref v :: st) S I J r cu su) := rfl
theorem o_61 {sc : Nat × (Nat → Int32)} {cl : XC} {nx : XN} {Q : XQ} {mc ms : Nat} {K : XK} {l a b d h n e : Nat} {z : Int32} {w : Int64} {L st : XV} {S : XS} {I : XI} {J : XJ} {r : XR} {cu su : Nat} {x : Int32} {q : Nat} : xst sc cl nx Q mc ms K (61, l, a, b, d, h, n, e, z, w) L (.int x :: .ref q :: st) S I J r cu su = ((x = 0 ∨ x = 1) ∧ S[q]? = some (b, 0) ∧ K L st S (up2 I q d x) J r cu su) := rfl
