def xcnd (d : Nat) : Jvm.ClassFile.Cond := match d with
  | 0 => .eq
  | 1 => .ne
  | 2 => .lt
  | 3 => .ge
  | 4 => .gt
  | _ => .le
def xdec (b : ByteArray) (pc : Nat) (i : Instr) (len : Nat) : Bool := decide (decode b pc = .ok (i, len))
def xC (b : Nat) : vw_C := xcl.getD b (cR0, cT0, 19)
/-! what is asked of a callee -/
def okC (k : Nat) : Bool := match xh k with
  | (_, ii, ix, isel, n, kd) => xmok k && xw ii (.initialized (xm k).1.cls) && decide ((xm k).1.cls ≠ "java/lang/invoke/MethodHandle" ∧ (xm k).1.cls ≠ "java/lang/invoke/VarHandle") && decide ((parseMethodDescriptor (xm k).1.desc).map (fun d => d.parameters.length) = some n) && decide ((xm k).2.2.1 ≤ 21) && (match kd with
    | 0 => xw ix (.instanceMethod (xm k).1) && xw isel (.selects (xm k).1.cls (xm k).1 (xm k).1)
    | 1 => xw ix (.static (xm k).1)
    | _ => xw ix (.instanceMethod (xm k).1) && decide ((xm k).1.name = "<init>") && decide ((xm k).2.2.2 = none))
def okCs (k : Nat) : Bool := decide (k < 351) && !([1,48,49,50,51].contains k)
def ck0 (own : String) (cc : ByteArray) (nL : Nat) (rt : Option FieldType) (ini law : Bool) (pc len a b d h n e : Nat) (z : Int32) (w : Int64) : Bool := (d == 0 && len == 1 && xdec cc pc (.iconst z.toInt) 1) || (d == 1 && len == 2 && xdec cc pc (.bipush z.toInt) 2 && decide ((Int8.ofInt z.toInt).toInt32 = z)) || (d == 2 && len == 3 && xdec cc pc (.sipush z.toInt) 3 && decide ((Int16.ofInt z.toInt).toInt32 = z)) || (d == 3 && len == 2 && xdec cc pc (.ldc a) 2 && xw h (.constant own a z)) || (d == 4 && len == 3 && xdec cc pc (.ldc_w a) 3 && xw h (.constant own a z))
def ck1 (own : String) (cc : ByteArray) (nL : Nat) (rt : Option FieldType) (ini law : Bool) (pc len a b d h n e : Nat) (z : Int32) (w : Int64) : Bool := (d == 0 && len == 1 && ((decide (w = 0) && xdec cc pc (.lconst 0) 1) || (decide (w = 1) && xdec cc pc (.lconst 1) 1))) || (d == 1 && len == 3 && xdec cc pc (.ldc2_w a) 3 && xw h (.constantLong own a w))
def ck2 (own : String) (cc : ByteArray) (nL : Nat) (rt : Option FieldType) (ini law : Bool) (pc len a b d h n e : Nat) (z : Int32) (w : Int64) : Bool := len == 2 && decide (b < 29) && xdec cc pc (.ldc a) 2 && (match xstl[b]? with
    | some x => decide (x.1 = own) && decide (x.2.1 = a)
    | none => false)
def ck3 (own : String) (cc : ByteArray) (nL : Nat) (rt : Option FieldType) (ini law : Bool) (pc len a b d h n e : Nat) (z : Int32) (w : Int64) : Bool := len == 1 && xdec cc pc .aconst_null 1
def ck4 (own : String) (cc : ByteArray) (nL : Nat) (rt : Option FieldType) (ini law : Bool) (pc len a b d h n e : Nat) (z : Int32) (w : Int64) : Bool := (len == 1 && decide (a < 4) && xdec cc pc (.iload_n (Fin.ofNat 4 a)) 1) || (len == 2 && xdec cc pc (.iload a) 2)
def ck5 (own : String) (cc : ByteArray) (nL : Nat) (rt : Option FieldType) (ini law : Bool) (pc len a b d h n e : Nat) (z : Int32) (w : Int64) : Bool := (len == 1 && decide (a < 4) && xdec cc pc (.lload_n (Fin.ofNat 4 a)) 1) || (len == 2 && xdec cc pc (.lload a) 2)
def ck6 (own : String) (cc : ByteArray) (nL : Nat) (rt : Option FieldType) (ini law : Bool) (pc len a b d h n e : Nat) (z : Int32) (w : Int64) : Bool := (len == 1 && decide (a < 4) && xdec cc pc (.aload_n (Fin.ofNat 4 a)) 1) || (len == 2 && xdec cc pc (.aload a) 2)
def ck7 (own : String) (cc : ByteArray) (nL : Nat) (rt : Option FieldType) (ini law : Bool) (pc len a b d h n e : Nat) (z : Int32) (w : Int64) : Bool := decide (a < nL) && ((len == 1 && decide (a < 4) && xdec cc pc (.istore_n (Fin.ofNat 4 a)) 1) || (len == 2 && xdec cc pc (.istore a) 2))
def ck8 (own : String) (cc : ByteArray) (nL : Nat) (rt : Option FieldType) (ini law : Bool) (pc len a b d h n e : Nat) (z : Int32) (w : Int64) : Bool := decide (a + 1 < nL) && ((len == 1 && decide (a < 4) && xdec cc pc (.lstore_n (Fin.ofNat 4 a)) 1) || (len == 2 && xdec cc pc (.lstore a) 2))
def ck9 (own : String) (cc : ByteArray) (nL : Nat) (rt : Option FieldType) (ini law : Bool) (pc len a b d h n e : Nat) (z : Int32) (w : Int64) : Bool := decide (a < nL) && ((len == 1 && decide (a < 4) && xdec cc pc (.astore_n (Fin.ofNat 4 a)) 1) || (len == 2 && xdec cc pc (.astore a) 2))
def ck10 (own : String) (cc : ByteArray) (nL : Nat) (rt : Option FieldType) (ini law : Bool) (pc len a b d h n e : Nat) (z : Int32) (w : Int64) : Bool := len == 3 && decide (a < nL) && xdec cc pc (.iinc a z.toInt) 3
def ck11 (own : String) (cc : ByteArray) (nL : Nat) (rt : Option FieldType) (ini law : Bool) (pc len a b d h n e : Nat) (z : Int32) (w : Int64) : Bool := len == 1 && ((d == 0 && xdec cc pc .iadd 1) || (d == 1 && xdec cc pc .isub 1) || (d == 2 && xdec cc pc .imul 1) || (d == 3 && xdec cc pc .iand 1) || (d == 4 && xdec cc pc .ior 1) || (d == 5 && xdec cc pc .ixor 1) || (d == 6 && xdec cc pc .ishl 1) || (d == 7 && xdec cc pc .ishr 1) || (d == 8 && xdec cc pc .iushr 1))
def ck12 (own : String) (cc : ByteArray) (nL : Nat) (rt : Option FieldType) (ini law : Bool) (pc len a b d h n e : Nat) (z : Int32) (w : Int64) : Bool := len == 1 && ((d == 0 && xdec cc pc .idiv 1) || (d == 1 && xdec cc pc .irem 1))
def ck13 (own : String) (cc : ByteArray) (nL : Nat) (rt : Option FieldType) (ini law : Bool) (pc len a b d h n e : Nat) (z : Int32) (w : Int64) : Bool := len == 1 && xdec cc pc .ineg 1
def ck14 (own : String) (cc : ByteArray) (nL : Nat) (rt : Option FieldType) (ini law : Bool) (pc len a b d h n e : Nat) (z : Int32) (w : Int64) : Bool := len == 1 && ((d == 0 && xdec cc pc .ladd 1) || (d == 1 && xdec cc pc .lsub 1) || (d == 2 && xdec cc pc .lmul 1) || (d == 3 && xdec cc pc .land 1) || (d == 4 && xdec cc pc .lor 1))
def ck15 (own : String) (cc : ByteArray) (nL : Nat) (rt : Option FieldType) (ini law : Bool) (pc len a b d h n e : Nat) (z : Int32) (w : Int64) : Bool := len == 1 && ((d == 0 && xdec cc pc .ldiv 1) || (d == 1 && xdec cc pc .lrem 1))
def ck16 (own : String) (cc : ByteArray) (nL : Nat) (rt : Option FieldType) (ini law : Bool) (pc len a b d h n e : Nat) (z : Int32) (w : Int64) : Bool := len == 1 && xdec cc pc .lshl 1
def ck17 (own : String) (cc : ByteArray) (nL : Nat) (rt : Option FieldType) (ini law : Bool) (pc len a b d h n e : Nat) (z : Int32) (w : Int64) : Bool := len == 1 && ((d == 0 && xdec cc pc .i2l 1) || (d == 1 && xdec cc pc .l2i 1) || (d == 2 && xdec cc pc .i2b 1) || (d == 3 && xdec cc pc .i2s 1) || (d == 4 && xdec cc pc .i2c 1) || (d == 5 && xdec cc pc .lneg 1))
def ck18 (own : String) (cc : ByteArray) (nL : Nat) (rt : Option FieldType) (ini law : Bool) (pc len a b d h n e : Nat) (z : Int32) (w : Int64) : Bool := len == 1 && xdec cc pc .lcmp 1
def ck19 (own : String) (cc : ByteArray) (nL : Nat) (rt : Option FieldType) (ini law : Bool) (pc len a b d h n e : Nat) (z : Int32) (w : Int64) : Bool := len == 1 && xdec cc pc .dup 1
def ck20 (own : String) (cc : ByteArray) (nL : Nat) (rt : Option FieldType) (ini law : Bool) (pc len a b d h n e : Nat) (z : Int32) (w : Int64) : Bool := len == 1 && xdec cc pc .dup2 1
def ck21 (own : String) (cc : ByteArray) (nL : Nat) (rt : Option FieldType) (ini law : Bool) (pc len a b d h n e : Nat) (z : Int32) (w : Int64) : Bool := len == 1 && xdec cc pc .pop 1
def ck22 (own : String) (cc : ByteArray) (nL : Nat) (rt : Option FieldType) (ini law : Bool) (pc len a b d h n e : Nat) (z : Int32) (w : Int64) : Bool := len == 3 && decide (d < 6) && xdec cc pc (.ifCond (xcnd d) ((a : Int) - pc)) 3
def ck23 (own : String) (cc : ByteArray) (nL : Nat) (rt : Option FieldType) (ini law : Bool) (pc len a b d h n e : Nat) (z : Int32) (w : Int64) : Bool := len == 3 && decide (d < 6) && xdec cc pc (.if_icmp (xcnd d) ((a : Int) - pc)) 3
def ck24 (own : String) (cc : ByteArray) (nL : Nat) (rt : Option FieldType) (ini law : Bool) (pc len a b d h n e : Nat) (z : Int32) (w : Int64) : Bool := (d == 1 && a == pc) || (d == 0 && len == 3 && xdec cc pc (.goto ((a : Int) - pc)) 3)
def ck25 (own : String) (cc : ByteArray) (nL : Nat) (rt : Option FieldType) (ini law : Bool) (pc len a b d h n e : Nat) (z : Int32) (w : Int64) : Bool := len == 3 && ((d == 0 && xdec cc pc (.ifnull ((a : Int) - pc)) 3) || (d == 1 && xdec cc pc (.ifnonnull ((a : Int) - pc)) 3))
def ck26 (own : String) (cc : ByteArray) (nL : Nat) (rt : Option FieldType) (ini law : Bool) (pc len a b d h n e : Nat) (z : Int32) (w : Int64) : Bool := (match decode cc pc with
    | .ok (.tableswitch df lo hi offs, _) => decide ((pc : Int) + df = (xswt b).2) && decide (hi = lo + (xswt b).1.length - 1) && (List.range (xswt b).1.length).all fun j => decide (((xswt b).1.getD j (0, 0)).1.toInt = lo + j) && (match offs[j]? with
      | some off => decide ((pc : Int) + off = ((xswt b).1.getD j (0, 0)).2)
      | none => false)
    | .ok (.lookupswitch df ps, _) => decide (df = ((xswt b).2 : Int) - pc) && decide (ps.toList = (xswt b).1.map fun c => (c.1.toInt, (c.2 : Int) - pc)) && (ps.toList.zip (ps.toList.drop 1)).all (fun (a, next) => a.1 < next.1)
    | _ => false)
def ck27 (own : String) (cc : ByteArray) (nL : Nat) (rt : Option FieldType) (ini law : Bool) (pc len a b d h n e : Nat) (z : Int32) (w : Int64) : Bool := len == 1 && ((d == 0 && decide (rt = some .int) && xdec cc pc .ireturn 1) || (d == 1 && decide (rt = some .boolean) && xdec cc pc .ireturn 1) || (d == 2 && decide (rt = some .long) && xdec cc pc .lreturn 1) || (d == 3 && decide (rt = none) && xdec cc pc .return_ 1) || (d == 4 && decide (rt = some .byte) && xdec cc pc .ireturn 1) || (d == 5 && decide (rt = some .char) && xdec cc pc .ireturn 1))
def ck28 (own : String) (cc : ByteArray) (nL : Nat) (rt : Option FieldType) (ini law : Bool) (pc len a b d h n e : Nat) (z : Int32) (w : Int64) : Bool := len == 3 && decide (b < 11) && xw h (.classLink own a (xC b).1) && xdec cc pc (.new a) 3
def ck29 (own : String) (cc : ByteArray) (nL : Nat) (rt : Option FieldType) (ini law : Bool) (pc len a b d h n e : Nat) (z : Int32) (w : Int64) : Bool := len == 2 && ((b == 100 && xdec cc pc (.newarray .int) 2) || (b == 101 && xdec cc pc (.newarray .long) 2) || (b == 102 && xdec cc pc (.newarray .byte) 2))
def ck30 (own : String) (cc : ByteArray) (nL : Nat) (rt : Option FieldType) (ini law : Bool) (pc len a b d h n e : Nat) (z : Int32) (w : Int64) : Bool := len == 3 && xw h (.classLink own a "FreckleChart$Coast") && xdec cc pc (.anewarray a) 3
def ck31 (own : String) (cc : ByteArray) (nL : Nat) (rt : Option FieldType) (ini law : Bool) (pc len a b d h n e : Nat) (z : Int32) (w : Int64) : Bool := len == 4 && xw h (.classLink own a ("[" ++ (FieldType.array .long).toString)) && xdec cc pc (.multianewarray a 2) 4
def ck32 (own : String) (cc : ByteArray) (nL : Nat) (rt : Option FieldType) (ini law : Bool) (pc len a b d h n e : Nat) (z : Int32) (w : Int64) : Bool := len == 1 && xdec cc pc .arraylength 1
def ck33 (own : String) (cc : ByteArray) (nL : Nat) (rt : Option FieldType) (ini law : Bool) (pc len a b d h n e : Nat) (z : Int32) (w : Int64) : Bool := len == 1 && xdec cc pc .iaload 1
def ck34 (own : String) (cc : ByteArray) (nL : Nat) (rt : Option FieldType) (ini law : Bool) (pc len a b d h n e : Nat) (z : Int32) (w : Int64) : Bool := len == 1 && xdec cc pc .iastore 1
def ck35 (own : String) (cc : ByteArray) (nL : Nat) (rt : Option FieldType) (ini law : Bool) (pc len a b d h n e : Nat) (z : Int32) (w : Int64) : Bool := len == 1 && xdec cc pc .laload 1
def ck36 (own : String) (cc : ByteArray) (nL : Nat) (rt : Option FieldType) (ini law : Bool) (pc len a b d h n e : Nat) (z : Int32) (w : Int64) : Bool := len == 1 && xdec cc pc .lastore 1
def ck37 (own : String) (cc : ByteArray) (nL : Nat) (rt : Option FieldType) (ini law : Bool) (pc len a b d h n e : Nat) (z : Int32) (w : Int64) : Bool := len == 1 && xdec cc pc .baload 1
def ck38 (own : String) (cc : ByteArray) (nL : Nat) (rt : Option FieldType) (ini law : Bool) (pc len a b d h n e : Nat) (z : Int32) (w : Int64) : Bool := len == 1 && xdec cc pc .bastore 1
def ck39 (own : String) (cc : ByteArray) (nL : Nat) (rt : Option FieldType) (ini law : Bool) (pc len a b d h n e : Nat) (z : Int32) (w : Int64) : Bool := len == 1 && xdec cc pc .aaload 1
def ck40 (own : String) (cc : ByteArray) (nL : Nat) (rt : Option FieldType) (ini law : Bool) (pc len a b d h n e : Nat) (z : Int32) (w : Int64) : Bool := len == 1 && xdec cc pc .aastore 1
def ck42 (own : String) (cc : ByteArray) (nL : Nat) (rt : Option FieldType) (ini law : Bool) (pc len a b d h n e : Nat) (z : Int32) (w : Int64) : Bool := len == 3 && decide (b < 11) && decide (d < nfc b) && decide (xkd b d = 0) && xw h (.fieldLink own a ((xC b).2.1 d).1 ((xC b).2.1 d).2.1 ((xC b).2.1 d).2.2.1) && xdec cc pc (.getfield a) 3
def ck43 (own : String) (cc : ByteArray) (nL : Nat) (rt : Option FieldType) (ini law : Bool) (pc len a b d h n e : Nat) (z : Int32) (w : Int64) : Bool := len == 3 && decide (b < 11) && decide (d < nfc b) && decide (xkd b d = 1) && xw h (.fieldLink own a ((xC b).2.1 d).1 ((xC b).2.1 d).2.1 ((xC b).2.1 d).2.2.1) && xdec cc pc (.getfield a) 3
def ck44 (own : String) (cc : ByteArray) (nL : Nat) (rt : Option FieldType) (ini law : Bool) (pc len a b d h n e : Nat) (z : Int32) (w : Int64) : Bool := len == 3 && decide (b < 11) && decide (d < nfc b) && decide (xkd b d = 2) && xw h (.fieldLink own a ((xC b).2.1 d).1 ((xC b).2.1 d).2.1 ((xC b).2.1 d).2.2.1) && xdec cc pc (.getfield a) 3
def ck45 (own : String) (cc : ByteArray) (nL : Nat) (rt : Option FieldType) (ini law : Bool) (pc len a b d h n e : Nat) (z : Int32) (w : Int64) : Bool := len == 3 && decide (b < 11) && decide (d < nfc b) && decide (xkd b d = 0) && xw h (.fieldLink own a ((xC b).2.1 d).1 ((xC b).2.1 d).2.1 ((xC b).2.1 d).2.2.1) && xdec cc pc (.putfield a) 3 && (decide (((xC b).2.1 d).2.2.2 = false) || (decide (((xC b).2.1 d).2.2.2 = true) && decide (ini = true) && decide (((xC b).2.1 d).1 = own))) && decide (xty b d = .int)
def ck46 (own : String) (cc : ByteArray) (nL : Nat) (rt : Option FieldType) (ini law : Bool) (pc len a b d h n e : Nat) (z : Int32) (w : Int64) : Bool := len == 3 && decide (b < 11) && decide (d < nfc b) && decide (xkd b d = 1) && xw h (.fieldLink own a ((xC b).2.1 d).1 ((xC b).2.1 d).2.1 ((xC b).2.1 d).2.2.1) && xdec cc pc (.putfield a) 3 && (decide (((xC b).2.1 d).2.2.2 = false) || (decide (((xC b).2.1 d).2.2.2 = true) && decide (ini = true) && decide (((xC b).2.1 d).1 = own)))
def ck47 (own : String) (cc : ByteArray) (nL : Nat) (rt : Option FieldType) (ini law : Bool) (pc len a b d h n e : Nat) (z : Int32) (w : Int64) : Bool := len == 3 && decide (b < 11) && decide (d < nfc b) && decide (xkd b d = 2) && xw h (.fieldLink own a ((xC b).2.1 d).1 ((xC b).2.1 d).2.1 ((xC b).2.1 d).2.2.1) && xdec cc pc (.putfield a) 3 && (decide (((xC b).2.1 d).2.2.2 = false) || (decide (((xC b).2.1 d).2.2.2 = true) && decide (ini = true) && decide (((xC b).2.1 d).1 = own)))
def ck48 (own : String) (cc : ByteArray) (nL : Nat) (rt : Option FieldType) (ini law : Bool) (pc len a b d h n e : Nat) (z : Int32) (w : Int64) : Bool := len == 3 && okCs b && decide (mck b = 0) && decide (msk b = 0) && ((decide (d = 0) && decide ((xh b).2.2.2.2.2 = 0) && xw h (.methodLink own a (xm b).1) && decide (e < 11) && decide ((xC e).1 = (xm b).1.cls) && decide (n = (xh b).2.2.2.2.1 + 1) && xdec cc pc (.invokevirtual a) 3) || (decide (d = 1) && decide ((xh b).2.2.2.2.2 = 1) && xw h (.methodLink own a (xm b).1) && decide (n = (xh b).2.2.2.2.1) && xdec cc pc (.invokestatic a) 3) || (decide (d = 2) && decide ((xh b).2.2.2.2.2 = 2) && xw h (.methodLink own a (xm b).1) && decide (n = (xh b).2.2.2.2.1 + 1) && xdec cc pc (.invokespecial a) 3) || (decide (d = 3) && decide ((xh b).2.2.2.2.2 = 2) && decide ((own, a, (xm b).1) ∈ xnl) && decide (n = (xh b).2.2.2.2.1 + 1) && xdec cc pc (.invokespecial a) 3))
def ck49 (own : String) (cc : ByteArray) (nL : Nat) (rt : Option FieldType) (ini law : Bool) (pc len a b d h n e : Nat) (z : Int32) (w : Int64) : Bool := len == 3 && xw h (.methodLink own a Lib.objectInit) && xdec cc pc (.invokespecial a) 3
def ck50 (own : String) (cc : ByteArray) (nL : Nat) (rt : Option FieldType) (ini law : Bool) (pc len a b d h n e : Nat) (z : Int32) (w : Int64) : Bool := len == 3 && decide (d < 3) && xw h (.methodLink own a arraycopyName) && xdec cc pc (.invokestatic a) 3
def ck51 (own : String) (cc : ByteArray) (nL : Nat) (rt : Option FieldType) (ini law : Bool) (pc len a b d h n e : Nat) (z : Int32) (w : Int64) : Bool := len == 3 && xw h (.fieldLink own a "java/lang/String" "value" "[B") && xdec cc pc (.getfield a) 3
def ck52 (own : String) (cc : ByteArray) (nL : Nat) (rt : Option FieldType) (ini law : Bool) (pc len a b d h n e : Nat) (z : Int32) (w : Int64) : Bool := len == 3 && xw h (.fieldLink own a "java/lang/String" "coder" "B") && xdec cc pc (.getfield a) 3
def ck53 (own : String) (cc : ByteArray) (nL : Nat) (rt : Option FieldType) (ini law : Bool) (pc len a b d h n e : Nat) (z : Int32) (w : Int64) : Bool := len == 1 && law && xdec cc pc .arraylength 1
def ck54 (own : String) (cc : ByteArray) (nL : Nat) (rt : Option FieldType) (ini law : Bool) (pc len a b d h n e : Nat) (z : Int32) (w : Int64) : Bool := len == 1 && law && xdec cc pc .iaload 1
def ck55 (own : String) (cc : ByteArray) (nL : Nat) (rt : Option FieldType) (ini law : Bool) (pc len a b d h n e : Nat) (z : Int32) (w : Int64) : Bool := len == 3 && okCs b && ((decide (d = 0) && decide ((xh b).2.2.2.2.2 = 0) && xw h (.methodLink own a (xm b).1) && decide (e < 11) && decide ((xC e).1 = (xm b).1.cls) && decide (n = (xh b).2.2.2.2.1 + 1) && xdec cc pc (.invokevirtual a) 3) || (decide (d = 1) && decide ((xh b).2.2.2.2.2 = 1) && xw h (.methodLink own a (xm b).1) && decide (n = (xh b).2.2.2.2.1) && xdec cc pc (.invokestatic a) 3) || (decide (d = 2) && decide ((xh b).2.2.2.2.2 = 2) && xw h (.methodLink own a (xm b).1) && decide (n = (xh b).2.2.2.2.1 + 1) && xdec cc pc (.invokespecial a) 3) || (decide (d = 3) && decide ((xh b).2.2.2.2.2 = 2) && decide ((own, a, (xm b).1) ∈ xnl) && decide (n = (xh b).2.2.2.2.1 + 1) && xdec cc pc (.invokespecial a) 3))
def ck56 (own : String) (cc : ByteArray) (nL : Nat) (rt : Option FieldType) (ini law : Bool) (pc len a b d h n e : Nat) (z : Int32) (w : Int64) : Bool := len == 1 && xdec cc pc .arraylength 1
def ck57 (own : String) (cc : ByteArray) (nL : Nat) (rt : Option FieldType) (ini law : Bool) (pc len a b d h n e : Nat) (z : Int32) (w : Int64) : Bool := len == 1 && xdec cc pc .baload 1
def ck58 (own : String) (cc : ByteArray) (nL : Nat) (rt : Option FieldType) (ini law : Bool) (pc len a b d h n e : Nat) (z : Int32) (w : Int64) : Bool := len == 3 && xw h (.fieldLink own a "java/lang/String" "COMPACT_STRINGS" "Z") && xdec cc pc (.getstatic a) 3
def ck59 (own : String) (cc : ByteArray) (nL : Nat) (rt : Option FieldType) (ini law : Bool) (pc len a b d h n e : Nat) (z : Int32) (w : Int64) : Bool := len == 3 && xw h (.fieldLink own a "jdk/internal/util/Preconditions" "SIOOBE_FORMATTER" "Ljava/util/function/BiFunction;") && xdec cc pc (.getstatic a) 3
def ck60 (own : String) (cc : ByteArray) (nL : Nat) (rt : Option FieldType) (ini law : Bool) (pc len a b d h n e : Nat) (z : Int32) (w : Int64) : Bool := len == 3 && okCs b && decide (mck b = 0) && decide (msk b = 0) && decide ((xh b).2.2.2.2.2 = 0) && xw h (.methodLink own a (xm b).1) && decide ("java/lang/String" = (xm b).1.cls) && decide (n = (xh b).2.2.2.2.1 + 1) && xdec cc pc (.invokevirtual a) 3
def ck61 (own : String) (cc : ByteArray) (nL : Nat) (rt : Option FieldType) (ini law : Bool) (pc len a b d h n e : Nat) (z : Int32) (w : Int64) : Bool := len == 3 && decide (b < 11) && decide (d < nfc b) && decide (xkd b d = 0) && xw h (.fieldLink own a ((xC b).2.1 d).1 ((xC b).2.1 d).2.1 ((xC b).2.1 d).2.2.1) && xdec cc pc (.putfield a) 3 && (decide (((xC b).2.1 d).2.2.2 = false) || (decide (((xC b).2.1 d).2.2.2 = true) && decide (ini = true) && decide (((xC b).2.1 d).1 = own))) && decide (xty b d = .boolean)
def ck62 (own : String) (cc : ByteArray) (nL : Nat) (rt : Option FieldType) (ini law : Bool) (pc len a b d h n e : Nat) (z : Int32) (w : Int64) : Bool := len == 1 && xdec cc pc .aaload 1
def xins (own : String) (cc : ByteArray) (nL : Nat) (rt : Option FieldType) (ini law : Bool) (pc : Nat) : XO → Bool
  | (op, len, a, b, d, h, n, e, z, w) => match op with
    | 0 => ck0 own cc nL rt ini law pc len a b d h n e z w
    | 1 => ck1 own cc nL rt ini law pc len a b d h n e z w
    | 2 => ck2 own cc nL rt ini law pc len a b d h n e z w
    | 3 => ck3 own cc nL rt ini law pc len a b d h n e z w
    | 4 => ck4 own cc nL rt ini law pc len a b d h n e z w
    | 5 => ck5 own cc nL rt ini law pc len a b d h n e z w
    | 6 => ck6 own cc nL rt ini law pc len a b d h n e z w
    | 7 => ck7 own cc nL rt ini law pc len a b d h n e z w
    | 8 => ck8 own cc nL rt ini law pc len a b d h n e z w
    | 9 => ck9 own cc nL rt ini law pc len a b d h n e z w
    | 10 => ck10 own cc nL rt ini law pc len a b d h n e z w
    | 11 => ck11 own cc nL rt ini law pc len a b d h n e z w
    | 12 => ck12 own cc nL rt ini law pc len a b d h n e z w
    | 13 => ck13 own cc nL rt ini law pc len a b d h n e z w
    | 14 => ck14 own cc nL rt ini law pc len a b d h n e z w
    | 15 => ck15 own cc nL rt ini law pc len a b d h n e z w
    | 16 => ck16 own cc nL rt ini law pc len a b d h n e z w
    | 17 => ck17 own cc nL rt ini law pc len a b d h n e z w
    | 18 => ck18 own cc nL rt ini law pc len a b d h n e z w
    | 19 => ck19 own cc nL rt ini law pc len a b d h n e z w
    | 20 => ck20 own cc nL rt ini law pc len a b d h n e z w
    | 21 => ck21 own cc nL rt ini law pc len a b d h n e z w
    | 22 => ck22 own cc nL rt ini law pc len a b d h n e z w
    | 23 => ck23 own cc nL rt ini law pc len a b d h n e z w
    | 24 => ck24 own cc nL rt ini law pc len a b d h n e z w
    | 25 => ck25 own cc nL rt ini law pc len a b d h n e z w
    | 26 => ck26 own cc nL rt ini law pc len a b d h n e z w
    | 27 => ck27 own cc nL rt ini law pc len a b d h n e z w
    | 28 => ck28 own cc nL rt ini law pc len a b d h n e z w
    | 29 => ck29 own cc nL rt ini law pc len a b d h n e z w
    | 30 => ck30 own cc nL rt ini law pc len a b d h n e z w
    | 31 => ck31 own cc nL rt ini law pc len a b d h n e z w
    | 32 => ck32 own cc nL rt ini law pc len a b d h n e z w
    | 33 => ck33 own cc nL rt ini law pc len a b d h n e z w
    | 34 => ck34 own cc nL rt ini law pc len a b d h n e z w
    | 35 => ck35 own cc nL rt ini law pc len a b d h n e z w
    | 36 => ck36 own cc nL rt ini law pc len a b d h n e z w
    | 37 => ck37 own cc nL rt ini law pc len a b d h n e z w
    | 38 => ck38 own cc nL rt ini law pc len a b d h n e z w
    | 39 => ck39 own cc nL rt ini law pc len a b d h n e z w
    | 40 => ck40 own cc nL rt ini law pc len a b d h n e z w
    | 42 => ck42 own cc nL rt ini law pc len a b d h n e z w
    | 43 => ck43 own cc nL rt ini law pc len a b d h n e z w
    | 44 => ck44 own cc nL rt ini law pc len a b d h n e z w
    | 45 => ck45 own cc nL rt ini law pc len a b d h n e z w
    | 46 => ck46 own cc nL rt ini law pc len a b d h n e z w
    | 47 => ck47 own cc nL rt ini law pc len a b d h n e z w
    | 48 => ck48 own cc nL rt ini law pc len a b d h n e z w
    | 49 => ck49 own cc nL rt ini law pc len a b d h n e z w
    | 50 => ck50 own cc nL rt ini law pc len a b d h n e z w
    | 51 => ck51 own cc nL rt ini law pc len a b d h n e z w
    | 52 => ck52 own cc nL rt ini law pc len a b d h n e z w
    | 53 => ck53 own cc nL rt ini law pc len a b d h n e z w
    | 54 => ck54 own cc nL rt ini law pc len a b d h n e z w
    | 55 => ck55 own cc nL rt ini law pc len a b d h n e z w
    | 56 => ck56 own cc nL rt ini law pc len a b d h n e z w
    | 57 => ck57 own cc nL rt ini law pc len a b d h n e z w
    | 58 => ck58 own cc nL rt ini law pc len a b d h n e z w
    | 59 => ck59 own cc nL rt ini law pc len a b d h n e z w
    | 60 => ck60 own cc nL rt ini law pc len a b d h n e z w
    | 61 => ck61 own cc nL rt ini law pc len a b d h n e z w
    | 62 => ck62 own cc nL rt ini law pc len a b d h n e z w
    | _ => false
def xblkOk (own : String) (cc : ByteArray) (nL : Nat) (rt : Option FieldType) (ini law : Bool) : Nat → List XO → Bool
  | _, [] => true
  | pc, i :: is => xins own cc nL rt ini law pc i && xblkOk own cc nL rt ini law (pc + i.2.1) is
def okMs (k : Nat) : Bool := decide (k < 351) && !([1,48,49,50,51].contains k)
def okMb (k : Nat) : Bool := (xtl.getD k []).all fun e => xblkOk (xm k).1.cls (xm k).2.1 (xm k).2.2.1 (xm k).2.2.2 (decide ((xm k).1.name = "<init>")) false e.1 e.2
def okM (k : Nat) : Bool := plainFor (xm k).1 && decide (mlk k = (xm k).2.2.1)
