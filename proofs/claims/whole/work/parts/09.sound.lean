section XOps
variable {p : Program} {l : Launch} {e9 : Env} {Rm : Room} {s : State} {m : MethodId} {args : Array Value} {below : List Frame} {meth : Method} {c : Code} {dC : Nat → ClassId} {dI : Nat → Nat → Nat} {A : Nat → Prop} {a0 : Nat → Nat} {n0 : Nat} {sV : Nat → Value} {nL mc ms : Nat} {Zf : State → Prop} {cc : ByteArray} {own : String} {ini law : Bool} {sc : Nat × (Nat → Int32)} {K : XK} {pc pc' : Nat} {L st : XV} {S : XS} {I : XI} {J : XJ} {r : XR} {cu su : Nat}
def xretOk (rt : Option FieldType) (v : Option Value) : Prop := match rt, v with
  | none, none => True
  | some .long, some (.long _) => True
  | some .long, _ => False
  | some ty, some (.int x) => narrow ty (.int x) = .int x
  | _, _ => False
def xri : Option Value → Instr
  | none => .return_
  | some (.long _) => .lreturn
  | _ => .ireturn
theorem okCs_ok {k : Nat} (h : okCs k = true) : okC k = true := by
  have h1 := h
  unfold okCs at h1
  rw [Bool.and_eq_true] at h1
  exact okC_all k (of_decide_eq_true h1.1) h
def okK (b : Nat) : Bool := xw (xkhl.getD b (0, 0)).1 (.instantiable (xC b).1 (xC b).2.2) && xw (xkhl.getD b (0, 0)).2 (.initialized (xC b).1)
theorem okK_all : ∀ b, b < 11 → okK b = true := by decide +kernel
theorem okK_in {b : Nat} (h : b < 11) : Cond.instantiable (xC b).1 (xC b).2.2 ∈ xW ∧ Cond.initialized (xC b).1 ∈ xW := by
  have h1 := okK_all b h
  unfold okK at h1
  rw [Bool.and_eq_true] at h1
  exact ⟨xw_in h1.1, xw_in h1.2⟩
theorem xc_ai : Cond.arrayClass .int ∈ xW := xw_in (h := xah.getD 0 0) (by decide +kernel)
theorem xc_al : Cond.arrayClass .long ∈ xW := xw_in (h := xah.getD 1 0) (by decide +kernel)
theorem xc_ab : Cond.arrayClass .byte ∈ xW := xw_in (h := xah.getD 2 0) (by decide +kernel)
theorem xc_n : Cond.native arraycopyName ∈ xW := xw_in (h := xch.getD 0 0) (by decide +kernel)
theorem xc_s : Cond.static arraycopyName ∈ xW := xw_in (h := xch.getD 1 0) (by decide +kernel)
theorem xc_i : Cond.initialized "java/lang/System" ∈ xW := xw_in (h := xch.getD 2 0) (by decide +kernel)
theorem xc_oi : Cond.instanceMethod Lib.objectInit ∈ xW := xw_in (h := xch.getD 3 0) (by decide +kernel)
theorem xc_oc : Cond.code Lib.objectInit ⟨#[0xb1]⟩ 1 none ∈ xW := xw_in (h := xch.getD 4 0) (by decide +kernel)
theorem fin4 {a : Nat} (h : a < 4) : ((Fin.ofNat 4 a : Fin 4) : Nat) = a := Nat.mod_eq_of_lt h
theorem xi_0 (F : XFx p s m meth c args Rm cc own nL ini law sc mc ms A sV) {rt : Option FieldType} {d0 : Nat} {cl : XC} {nx : XN} {Q : XQ} (hfr : d0 + 1 ≤ Rm.frames) (hlo : 40 * (d0 + 1) ≤ Rm.locals)
    (hcl : ∀ (k : Nat) (as : XV) (S : XS) (I : XI) (J : XJ) (r : XR) (Q : XQ), cl k as S I J r Q → XMt l d0 dC dI sV k as S I J r Q)
    (hnx : ∀ (pc : Nat) (L st : XV) (S : XS) (I : XI) (J : XJ) (r : XR) (cu su : Nat), nx pc L st S I J r cu su → XW p l e9 Rm s m args below meth c dC dI A a0 n0 sV nL mc ms Zf pc L st S I J r cu su)
    (hret : ∀ (pc : Nat) (L : XV) (cu su : Nat) (v : Option Value) (S : XS) (I : XI) (J : XJ) (r : XR), Q v S I J r → xretOk rt v → decode cc pc = .ok (xri v, 1) → XW p l e9 Rm s m args below meth c dC dI A a0 n0 sV nL mc ms Zf pc L v.toList S I J r cu su) {len a b d h n e : Nat} {z : Int32} {w : Int64} (hK : ∀ (L st : XV) (S : XS) (I : XI) (J : XJ) (r : XR) (cu su : Nat), K L st S I J r cu su → XW p l e9 Rm s m args below meth c dC dI A a0 n0 sV nL mc ms Zf (pc + len) L st S I J r cu su) (hok : ck0 own cc nL rt ini law pc len a b d h n e z w = true) (hst : xst sc cl nx Q mc ms K (0, len, a, b, d, h, n, e, z, w) L st S I J r cu su) : XW p l e9 Rm s m args below meth c dC dI A a0 n0 sV nL mc ms Zf pc L st S I J r cu su := by
  unfold ck0 at hok
  simp only [Bool.or_eq_true, Bool.and_eq_true, beq_iff_eq, decide_eq_true_eq, Bool.not_eq_true'] at hok
  refine xs_iconst (d := d) (a := a) F ?_ (hK _ _ _ _ _ _ _ _ hst)
  rcases hok with (((⟨⟨h1, h2⟩, h3⟩ | ⟨⟨⟨h1, h2⟩, h3⟩, h4⟩) | ⟨⟨⟨h1, h2⟩, h3⟩, h4⟩) | ⟨⟨⟨h1, h2⟩, h3⟩, h4⟩) | ⟨⟨⟨h1, h2⟩, h3⟩, h4⟩
  · exact Or.inl ⟨h1, by rw [h2], xdec_ok h3⟩
  · exact Or.inr (Or.inl ⟨h1, by rw [h2], xdec_ok h3, h4⟩)
  · exact Or.inr (Or.inr (Or.inl ⟨h1, by rw [h2], xdec_ok h3, h4⟩))
  · exact Or.inr (Or.inr (Or.inr (Or.inl ⟨h1, by rw [h2], xdec_ok h3, xw_in h4⟩)))
  · exact Or.inr (Or.inr (Or.inr (Or.inr ⟨h1, by rw [h2], xdec_ok h3, xw_in h4⟩)))
theorem xi_1 (F : XFx p s m meth c args Rm cc own nL ini law sc mc ms A sV) {rt : Option FieldType} {d0 : Nat} {cl : XC} {nx : XN} {Q : XQ} (hfr : d0 + 1 ≤ Rm.frames) (hlo : 40 * (d0 + 1) ≤ Rm.locals)
    (hcl : ∀ (k : Nat) (as : XV) (S : XS) (I : XI) (J : XJ) (r : XR) (Q : XQ), cl k as S I J r Q → XMt l d0 dC dI sV k as S I J r Q)
    (hnx : ∀ (pc : Nat) (L st : XV) (S : XS) (I : XI) (J : XJ) (r : XR) (cu su : Nat), nx pc L st S I J r cu su → XW p l e9 Rm s m args below meth c dC dI A a0 n0 sV nL mc ms Zf pc L st S I J r cu su)
    (hret : ∀ (pc : Nat) (L : XV) (cu su : Nat) (v : Option Value) (S : XS) (I : XI) (J : XJ) (r : XR), Q v S I J r → xretOk rt v → decode cc pc = .ok (xri v, 1) → XW p l e9 Rm s m args below meth c dC dI A a0 n0 sV nL mc ms Zf pc L v.toList S I J r cu su) {len a b d h n e : Nat} {z : Int32} {w : Int64} (hK : ∀ (L st : XV) (S : XS) (I : XI) (J : XJ) (r : XR) (cu su : Nat), K L st S I J r cu su → XW p l e9 Rm s m args below meth c dC dI A a0 n0 sV nL mc ms Zf (pc + len) L st S I J r cu su) (hok : ck1 own cc nL rt ini law pc len a b d h n e z w = true) (hst : xst sc cl nx Q mc ms K (1, len, a, b, d, h, n, e, z, w) L st S I J r cu su) : XW p l e9 Rm s m args below meth c dC dI A a0 n0 sV nL mc ms Zf pc L st S I J r cu su := by
  unfold ck1 at hok
  simp only [Bool.or_eq_true, Bool.and_eq_true, beq_iff_eq, decide_eq_true_eq, Bool.not_eq_true'] at hok
  refine xs_lconst (a := a) F ?_ (hK _ _ _ _ _ _ _ _ hst)
  rcases hok with ⟨⟨h1, h2⟩, h3 | h3⟩ | ⟨⟨⟨h1, h2⟩, h3⟩, h4⟩
  · exact Or.inl ⟨by rw [h2], Or.inl ⟨h3.1, xdec_ok h3.2⟩⟩
  · exact Or.inl ⟨by rw [h2], Or.inr ⟨h3.1, xdec_ok h3.2⟩⟩
  · exact Or.inr ⟨by rw [h2], xdec_ok h3, xw_in h4⟩
theorem xi_2 (F : XFx p s m meth c args Rm cc own nL ini law sc mc ms A sV) {rt : Option FieldType} {d0 : Nat} {cl : XC} {nx : XN} {Q : XQ} (hfr : d0 + 1 ≤ Rm.frames) (hlo : 40 * (d0 + 1) ≤ Rm.locals)
    (hcl : ∀ (k : Nat) (as : XV) (S : XS) (I : XI) (J : XJ) (r : XR) (Q : XQ), cl k as S I J r Q → XMt l d0 dC dI sV k as S I J r Q)
    (hnx : ∀ (pc : Nat) (L st : XV) (S : XS) (I : XI) (J : XJ) (r : XR) (cu su : Nat), nx pc L st S I J r cu su → XW p l e9 Rm s m args below meth c dC dI A a0 n0 sV nL mc ms Zf pc L st S I J r cu su)
    (hret : ∀ (pc : Nat) (L : XV) (cu su : Nat) (v : Option Value) (S : XS) (I : XI) (J : XJ) (r : XR), Q v S I J r → xretOk rt v → decode cc pc = .ok (xri v, 1) → XW p l e9 Rm s m args below meth c dC dI A a0 n0 sV nL mc ms Zf pc L v.toList S I J r cu su) {len a b d h n e : Nat} {z : Int32} {w : Int64} (hK : ∀ (L st : XV) (S : XS) (I : XI) (J : XJ) (r : XR) (cu su : Nat), K L st S I J r cu su → XW p l e9 Rm s m args below meth c dC dI A a0 n0 sV nL mc ms Zf (pc + len) L st S I J r cu su) (hok : ck2 own cc nL rt ini law pc len a b d h n e z w = true) (hst : xst sc cl nx Q mc ms K (2, len, a, b, d, h, n, e, z, w) L st S I J r cu su) : XW p l e9 Rm s m args below meth c dC dI A a0 n0 sV nL mc ms Zf pc L st S I J r cu su := by
  unfold ck2 at hok
  simp only [Bool.or_eq_true, Bool.and_eq_true, beq_iff_eq, decide_eq_true_eq, Bool.not_eq_true'] at hok
  obtain ⟨⟨⟨rfl, h2⟩, h3⟩, h4⟩ := hok
  cases hx : xstl[b]? with
  | none => rw [hx] at h4; cases h4
  | some x =>
    rw [hx] at h4
    simp only [Bool.and_eq_true, decide_eq_true_eq] at h4
    exact xs_ldcS F h2 (tx := x.2.2) (by rw [hx, ← h4.1, ← h4.2]) (xdec_ok h3) (hK _ _ _ _ _ _ _ _ hst)
theorem xi_3 (F : XFx p s m meth c args Rm cc own nL ini law sc mc ms A sV) {rt : Option FieldType} {d0 : Nat} {cl : XC} {nx : XN} {Q : XQ} (hfr : d0 + 1 ≤ Rm.frames) (hlo : 40 * (d0 + 1) ≤ Rm.locals)
    (hcl : ∀ (k : Nat) (as : XV) (S : XS) (I : XI) (J : XJ) (r : XR) (Q : XQ), cl k as S I J r Q → XMt l d0 dC dI sV k as S I J r Q)
    (hnx : ∀ (pc : Nat) (L st : XV) (S : XS) (I : XI) (J : XJ) (r : XR) (cu su : Nat), nx pc L st S I J r cu su → XW p l e9 Rm s m args below meth c dC dI A a0 n0 sV nL mc ms Zf pc L st S I J r cu su)
    (hret : ∀ (pc : Nat) (L : XV) (cu su : Nat) (v : Option Value) (S : XS) (I : XI) (J : XJ) (r : XR), Q v S I J r → xretOk rt v → decode cc pc = .ok (xri v, 1) → XW p l e9 Rm s m args below meth c dC dI A a0 n0 sV nL mc ms Zf pc L v.toList S I J r cu su) {len a b d h n e : Nat} {z : Int32} {w : Int64} (hK : ∀ (L st : XV) (S : XS) (I : XI) (J : XJ) (r : XR) (cu su : Nat), K L st S I J r cu su → XW p l e9 Rm s m args below meth c dC dI A a0 n0 sV nL mc ms Zf (pc + len) L st S I J r cu su) (hok : ck3 own cc nL rt ini law pc len a b d h n e z w = true) (hst : xst sc cl nx Q mc ms K (3, len, a, b, d, h, n, e, z, w) L st S I J r cu su) : XW p l e9 Rm s m args below meth c dC dI A a0 n0 sV nL mc ms Zf pc L st S I J r cu su := by
  unfold ck3 at hok
  simp only [Bool.or_eq_true, Bool.and_eq_true, beq_iff_eq, decide_eq_true_eq, Bool.not_eq_true'] at hok
  obtain ⟨rfl, h2⟩ := hok
  exact xs_null F (xdec_ok h2) (hK _ _ _ _ _ _ _ _ hst)
theorem xi_4 (F : XFx p s m meth c args Rm cc own nL ini law sc mc ms A sV) {rt : Option FieldType} {d0 : Nat} {cl : XC} {nx : XN} {Q : XQ} (hfr : d0 + 1 ≤ Rm.frames) (hlo : 40 * (d0 + 1) ≤ Rm.locals)
    (hcl : ∀ (k : Nat) (as : XV) (S : XS) (I : XI) (J : XJ) (r : XR) (Q : XQ), cl k as S I J r Q → XMt l d0 dC dI sV k as S I J r Q)
    (hnx : ∀ (pc : Nat) (L st : XV) (S : XS) (I : XI) (J : XJ) (r : XR) (cu su : Nat), nx pc L st S I J r cu su → XW p l e9 Rm s m args below meth c dC dI A a0 n0 sV nL mc ms Zf pc L st S I J r cu su)
    (hret : ∀ (pc : Nat) (L : XV) (cu su : Nat) (v : Option Value) (S : XS) (I : XI) (J : XJ) (r : XR), Q v S I J r → xretOk rt v → decode cc pc = .ok (xri v, 1) → XW p l e9 Rm s m args below meth c dC dI A a0 n0 sV nL mc ms Zf pc L v.toList S I J r cu su) {len a b d h n e : Nat} {z : Int32} {w : Int64} (hK : ∀ (L st : XV) (S : XS) (I : XI) (J : XJ) (r : XR) (cu su : Nat), K L st S I J r cu su → XW p l e9 Rm s m args below meth c dC dI A a0 n0 sV nL mc ms Zf (pc + len) L st S I J r cu su) (hok : ck4 own cc nL rt ini law pc len a b d h n e z w = true) (hst : xst sc cl nx Q mc ms K (4, len, a, b, d, h, n, e, z, w) L st S I J r cu su) : XW p l e9 Rm s m args below meth c dC dI A a0 n0 sV nL mc ms Zf pc L st S I J r cu su := by
  unfold ck4 at hok
  simp only [Bool.or_eq_true, Bool.and_eq_true, beq_iff_eq, decide_eq_true_eq, Bool.not_eq_true'] at hok
  have hdd : (pc + len = pc + 1 ∧ ∃ k : Fin 4, (k : Nat) = a ∧ decode cc pc = .ok (.iload_n k, 1)) ∨ (pc + len = pc + 2 ∧ decode cc pc = .ok (.iload a, 2)) := by
    rcases hok with ⟨⟨h1, h2⟩, h3⟩ | ⟨h1, h2⟩
    · exact Or.inl ⟨by rw [h1], _, fin4 h2, xdec_ok h3⟩
    · exact Or.inr ⟨by rw [h1], xdec_ok h2⟩
  simp only [xst] at hst
  split at hst
  · rename_i x hx
    exact xs_iload F hx hdd (hK _ _ _ _ _ _ _ _ hst)
  · exact hst.elim
theorem xi_5 (F : XFx p s m meth c args Rm cc own nL ini law sc mc ms A sV) {rt : Option FieldType} {d0 : Nat} {cl : XC} {nx : XN} {Q : XQ} (hfr : d0 + 1 ≤ Rm.frames) (hlo : 40 * (d0 + 1) ≤ Rm.locals)
    (hcl : ∀ (k : Nat) (as : XV) (S : XS) (I : XI) (J : XJ) (r : XR) (Q : XQ), cl k as S I J r Q → XMt l d0 dC dI sV k as S I J r Q)
    (hnx : ∀ (pc : Nat) (L st : XV) (S : XS) (I : XI) (J : XJ) (r : XR) (cu su : Nat), nx pc L st S I J r cu su → XW p l e9 Rm s m args below meth c dC dI A a0 n0 sV nL mc ms Zf pc L st S I J r cu su)
    (hret : ∀ (pc : Nat) (L : XV) (cu su : Nat) (v : Option Value) (S : XS) (I : XI) (J : XJ) (r : XR), Q v S I J r → xretOk rt v → decode cc pc = .ok (xri v, 1) → XW p l e9 Rm s m args below meth c dC dI A a0 n0 sV nL mc ms Zf pc L v.toList S I J r cu su) {len a b d h n e : Nat} {z : Int32} {w : Int64} (hK : ∀ (L st : XV) (S : XS) (I : XI) (J : XJ) (r : XR) (cu su : Nat), K L st S I J r cu su → XW p l e9 Rm s m args below meth c dC dI A a0 n0 sV nL mc ms Zf (pc + len) L st S I J r cu su) (hok : ck5 own cc nL rt ini law pc len a b d h n e z w = true) (hst : xst sc cl nx Q mc ms K (5, len, a, b, d, h, n, e, z, w) L st S I J r cu su) : XW p l e9 Rm s m args below meth c dC dI A a0 n0 sV nL mc ms Zf pc L st S I J r cu su := by
  unfold ck5 at hok
  simp only [Bool.or_eq_true, Bool.and_eq_true, beq_iff_eq, decide_eq_true_eq, Bool.not_eq_true'] at hok
  have hdd : (pc + len = pc + 1 ∧ ∃ k : Fin 4, (k : Nat) = a ∧ decode cc pc = .ok (.lload_n k, 1)) ∨ (pc + len = pc + 2 ∧ decode cc pc = .ok (.lload a, 2)) := by
    rcases hok with ⟨⟨h1, h2⟩, h3⟩ | ⟨h1, h2⟩
    · exact Or.inl ⟨by rw [h1], _, fin4 h2, xdec_ok h3⟩
    · exact Or.inr ⟨by rw [h1], xdec_ok h2⟩
  simp only [xst] at hst
  split at hst
  · rename_i x hx
    exact xs_lload F hx hdd (hK _ _ _ _ _ _ _ _ hst)
  · exact hst.elim
theorem xi_6 (F : XFx p s m meth c args Rm cc own nL ini law sc mc ms A sV) {rt : Option FieldType} {d0 : Nat} {cl : XC} {nx : XN} {Q : XQ} (hfr : d0 + 1 ≤ Rm.frames) (hlo : 40 * (d0 + 1) ≤ Rm.locals)
    (hcl : ∀ (k : Nat) (as : XV) (S : XS) (I : XI) (J : XJ) (r : XR) (Q : XQ), cl k as S I J r Q → XMt l d0 dC dI sV k as S I J r Q)
    (hnx : ∀ (pc : Nat) (L st : XV) (S : XS) (I : XI) (J : XJ) (r : XR) (cu su : Nat), nx pc L st S I J r cu su → XW p l e9 Rm s m args below meth c dC dI A a0 n0 sV nL mc ms Zf pc L st S I J r cu su)
    (hret : ∀ (pc : Nat) (L : XV) (cu su : Nat) (v : Option Value) (S : XS) (I : XI) (J : XJ) (r : XR), Q v S I J r → xretOk rt v → decode cc pc = .ok (xri v, 1) → XW p l e9 Rm s m args below meth c dC dI A a0 n0 sV nL mc ms Zf pc L v.toList S I J r cu su) {len a b d h n e : Nat} {z : Int32} {w : Int64} (hK : ∀ (L st : XV) (S : XS) (I : XI) (J : XJ) (r : XR) (cu su : Nat), K L st S I J r cu su → XW p l e9 Rm s m args below meth c dC dI A a0 n0 sV nL mc ms Zf (pc + len) L st S I J r cu su) (hok : ck6 own cc nL rt ini law pc len a b d h n e z w = true) (hst : xst sc cl nx Q mc ms K (6, len, a, b, d, h, n, e, z, w) L st S I J r cu su) : XW p l e9 Rm s m args below meth c dC dI A a0 n0 sV nL mc ms Zf pc L st S I J r cu su := by
  unfold ck6 at hok
  simp only [Bool.or_eq_true, Bool.and_eq_true, beq_iff_eq, decide_eq_true_eq, Bool.not_eq_true'] at hok
  have hdd : (pc + len = pc + 1 ∧ ∃ k : Fin 4, (k : Nat) = a ∧ decode cc pc = .ok (.aload_n k, 1)) ∨ (pc + len = pc + 2 ∧ decode cc pc = .ok (.aload a, 2)) := by
    rcases hok with ⟨⟨h1, h2⟩, h3⟩ | ⟨h1, h2⟩
    · exact Or.inl ⟨by rw [h1], _, fin4 h2, xdec_ok h3⟩
    · exact Or.inr ⟨by rw [h1], xdec_ok h2⟩
  simp only [xst] at hst
  split at hst
  · rename_i x hx
    exact xs_aload F hx hdd (hK _ _ _ _ _ _ _ _ hst)
  · rename_i x hx
    exact xs_aloadR F hx (F.2.2.2.2.2.2.2.1.2.2.2.1 x) hdd (hK _ _ _ _ _ _ _ _ hst)
  · rename_i hx
    exact xs_aloadN F hx hdd (hK _ _ _ _ _ _ _ _ hst)
  · exact hst.elim
theorem xi_7 (F : XFx p s m meth c args Rm cc own nL ini law sc mc ms A sV) {rt : Option FieldType} {d0 : Nat} {cl : XC} {nx : XN} {Q : XQ} (hfr : d0 + 1 ≤ Rm.frames) (hlo : 40 * (d0 + 1) ≤ Rm.locals)
    (hcl : ∀ (k : Nat) (as : XV) (S : XS) (I : XI) (J : XJ) (r : XR) (Q : XQ), cl k as S I J r Q → XMt l d0 dC dI sV k as S I J r Q)
    (hnx : ∀ (pc : Nat) (L st : XV) (S : XS) (I : XI) (J : XJ) (r : XR) (cu su : Nat), nx pc L st S I J r cu su → XW p l e9 Rm s m args below meth c dC dI A a0 n0 sV nL mc ms Zf pc L st S I J r cu su)
    (hret : ∀ (pc : Nat) (L : XV) (cu su : Nat) (v : Option Value) (S : XS) (I : XI) (J : XJ) (r : XR), Q v S I J r → xretOk rt v → decode cc pc = .ok (xri v, 1) → XW p l e9 Rm s m args below meth c dC dI A a0 n0 sV nL mc ms Zf pc L v.toList S I J r cu su) {len a b d h n e : Nat} {z : Int32} {w : Int64} (hK : ∀ (L st : XV) (S : XS) (I : XI) (J : XJ) (r : XR) (cu su : Nat), K L st S I J r cu su → XW p l e9 Rm s m args below meth c dC dI A a0 n0 sV nL mc ms Zf (pc + len) L st S I J r cu su) (hok : ck7 own cc nL rt ini law pc len a b d h n e z w = true) (hst : xst sc cl nx Q mc ms K (7, len, a, b, d, h, n, e, z, w) L st S I J r cu su) : XW p l e9 Rm s m args below meth c dC dI A a0 n0 sV nL mc ms Zf pc L st S I J r cu su := by
  unfold ck7 at hok
  simp only [Bool.or_eq_true, Bool.and_eq_true, beq_iff_eq, decide_eq_true_eq, Bool.not_eq_true'] at hok
  obtain ⟨hlt, hok⟩ := hok
  have hdd : (pc + len = pc + 1 ∧ ∃ k : Fin 4, (k : Nat) = a ∧ decode cc pc = .ok (.istore_n k, 1)) ∨ (pc + len = pc + 2 ∧ decode cc pc = .ok (.istore a, 2)) := by
    rcases hok with ⟨⟨h1, h2⟩, h3⟩ | ⟨h1, h2⟩
    · exact Or.inl ⟨by rw [h1], _, fin4 h2, xdec_ok h3⟩
    · exact Or.inr ⟨by rw [h1], xdec_ok h2⟩
  simp only [xst] at hst
  split at hst
  · exact xs_istore F hlt hdd (hK _ _ _ _ _ _ _ _ hst)
  · exact hst.elim
theorem xi_8 (F : XFx p s m meth c args Rm cc own nL ini law sc mc ms A sV) {rt : Option FieldType} {d0 : Nat} {cl : XC} {nx : XN} {Q : XQ} (hfr : d0 + 1 ≤ Rm.frames) (hlo : 40 * (d0 + 1) ≤ Rm.locals)
    (hcl : ∀ (k : Nat) (as : XV) (S : XS) (I : XI) (J : XJ) (r : XR) (Q : XQ), cl k as S I J r Q → XMt l d0 dC dI sV k as S I J r Q)
    (hnx : ∀ (pc : Nat) (L st : XV) (S : XS) (I : XI) (J : XJ) (r : XR) (cu su : Nat), nx pc L st S I J r cu su → XW p l e9 Rm s m args below meth c dC dI A a0 n0 sV nL mc ms Zf pc L st S I J r cu su)
    (hret : ∀ (pc : Nat) (L : XV) (cu su : Nat) (v : Option Value) (S : XS) (I : XI) (J : XJ) (r : XR), Q v S I J r → xretOk rt v → decode cc pc = .ok (xri v, 1) → XW p l e9 Rm s m args below meth c dC dI A a0 n0 sV nL mc ms Zf pc L v.toList S I J r cu su) {len a b d h n e : Nat} {z : Int32} {w : Int64} (hK : ∀ (L st : XV) (S : XS) (I : XI) (J : XJ) (r : XR) (cu su : Nat), K L st S I J r cu su → XW p l e9 Rm s m args below meth c dC dI A a0 n0 sV nL mc ms Zf (pc + len) L st S I J r cu su) (hok : ck8 own cc nL rt ini law pc len a b d h n e z w = true) (hst : xst sc cl nx Q mc ms K (8, len, a, b, d, h, n, e, z, w) L st S I J r cu su) : XW p l e9 Rm s m args below meth c dC dI A a0 n0 sV nL mc ms Zf pc L st S I J r cu su := by
  unfold ck8 at hok
  simp only [Bool.or_eq_true, Bool.and_eq_true, beq_iff_eq, decide_eq_true_eq, Bool.not_eq_true'] at hok
  obtain ⟨hlt, hok⟩ := hok
  have hdd : (pc + len = pc + 1 ∧ ∃ k : Fin 4, (k : Nat) = a ∧ decode cc pc = .ok (.lstore_n k, 1)) ∨ (pc + len = pc + 2 ∧ decode cc pc = .ok (.lstore a, 2)) := by
    rcases hok with ⟨⟨h1, h2⟩, h3⟩ | ⟨h1, h2⟩
    · exact Or.inl ⟨by rw [h1], _, fin4 h2, xdec_ok h3⟩
    · exact Or.inr ⟨by rw [h1], xdec_ok h2⟩
  simp only [xst] at hst
  split at hst
  · exact xs_lstore F hlt hdd (hK _ _ _ _ _ _ _ _ hst)
  · exact hst.elim
theorem xi_9 (F : XFx p s m meth c args Rm cc own nL ini law sc mc ms A sV) {rt : Option FieldType} {d0 : Nat} {cl : XC} {nx : XN} {Q : XQ} (hfr : d0 + 1 ≤ Rm.frames) (hlo : 40 * (d0 + 1) ≤ Rm.locals)
    (hcl : ∀ (k : Nat) (as : XV) (S : XS) (I : XI) (J : XJ) (r : XR) (Q : XQ), cl k as S I J r Q → XMt l d0 dC dI sV k as S I J r Q)
    (hnx : ∀ (pc : Nat) (L st : XV) (S : XS) (I : XI) (J : XJ) (r : XR) (cu su : Nat), nx pc L st S I J r cu su → XW p l e9 Rm s m args below meth c dC dI A a0 n0 sV nL mc ms Zf pc L st S I J r cu su)
    (hret : ∀ (pc : Nat) (L : XV) (cu su : Nat) (v : Option Value) (S : XS) (I : XI) (J : XJ) (r : XR), Q v S I J r → xretOk rt v → decode cc pc = .ok (xri v, 1) → XW p l e9 Rm s m args below meth c dC dI A a0 n0 sV nL mc ms Zf pc L v.toList S I J r cu su) {len a b d h n e : Nat} {z : Int32} {w : Int64} (hK : ∀ (L st : XV) (S : XS) (I : XI) (J : XJ) (r : XR) (cu su : Nat), K L st S I J r cu su → XW p l e9 Rm s m args below meth c dC dI A a0 n0 sV nL mc ms Zf (pc + len) L st S I J r cu su) (hok : ck9 own cc nL rt ini law pc len a b d h n e z w = true) (hst : xst sc cl nx Q mc ms K (9, len, a, b, d, h, n, e, z, w) L st S I J r cu su) : XW p l e9 Rm s m args below meth c dC dI A a0 n0 sV nL mc ms Zf pc L st S I J r cu su := by
  unfold ck9 at hok
  simp only [Bool.or_eq_true, Bool.and_eq_true, beq_iff_eq, decide_eq_true_eq, Bool.not_eq_true'] at hok
  obtain ⟨hlt, hok⟩ := hok
  have hdd : (pc + len = pc + 1 ∧ ∃ k : Fin 4, (k : Nat) = a ∧ decode cc pc = .ok (.astore_n k, 1)) ∨ (pc + len = pc + 2 ∧ decode cc pc = .ok (.astore a, 2)) := by
    rcases hok with ⟨⟨h1, h2⟩, h3⟩ | ⟨h1, h2⟩
    · exact Or.inl ⟨by rw [h1], _, fin4 h2, xdec_ok h3⟩
    · exact Or.inr ⟨by rw [h1], xdec_ok h2⟩
  simp only [xst] at hst
  split at hst
  · exact xs_astore F hlt hdd (hK _ _ _ _ _ _ _ _ hst)
  · exact xs_astoreN F hlt hdd (hK _ _ _ _ _ _ _ _ hst)
  · exact hst.elim
theorem xi_10 (F : XFx p s m meth c args Rm cc own nL ini law sc mc ms A sV) {rt : Option FieldType} {d0 : Nat} {cl : XC} {nx : XN} {Q : XQ} (hfr : d0 + 1 ≤ Rm.frames) (hlo : 40 * (d0 + 1) ≤ Rm.locals)
    (hcl : ∀ (k : Nat) (as : XV) (S : XS) (I : XI) (J : XJ) (r : XR) (Q : XQ), cl k as S I J r Q → XMt l d0 dC dI sV k as S I J r Q)
    (hnx : ∀ (pc : Nat) (L st : XV) (S : XS) (I : XI) (J : XJ) (r : XR) (cu su : Nat), nx pc L st S I J r cu su → XW p l e9 Rm s m args below meth c dC dI A a0 n0 sV nL mc ms Zf pc L st S I J r cu su)
    (hret : ∀ (pc : Nat) (L : XV) (cu su : Nat) (v : Option Value) (S : XS) (I : XI) (J : XJ) (r : XR), Q v S I J r → xretOk rt v → decode cc pc = .ok (xri v, 1) → XW p l e9 Rm s m args below meth c dC dI A a0 n0 sV nL mc ms Zf pc L v.toList S I J r cu su) {len a b d h n e : Nat} {z : Int32} {w : Int64} (hK : ∀ (L st : XV) (S : XS) (I : XI) (J : XJ) (r : XR) (cu su : Nat), K L st S I J r cu su → XW p l e9 Rm s m args below meth c dC dI A a0 n0 sV nL mc ms Zf (pc + len) L st S I J r cu su) (hok : ck10 own cc nL rt ini law pc len a b d h n e z w = true) (hst : xst sc cl nx Q mc ms K (10, len, a, b, d, h, n, e, z, w) L st S I J r cu su) : XW p l e9 Rm s m args below meth c dC dI A a0 n0 sV nL mc ms Zf pc L st S I J r cu su := by
  unfold ck10 at hok
  simp only [Bool.or_eq_true, Bool.and_eq_true, beq_iff_eq, decide_eq_true_eq, Bool.not_eq_true'] at hok
  obtain ⟨⟨rfl, h2⟩, h3⟩ := hok
  simp only [xst] at hst
  split at hst
  · rename_i x hx
    exact xs_iinc F hx h2 (xdec_ok h3) (hK _ _ _ _ _ _ _ _ hst)
  · exact hst.elim
theorem xi_11 (F : XFx p s m meth c args Rm cc own nL ini law sc mc ms A sV) {rt : Option FieldType} {d0 : Nat} {cl : XC} {nx : XN} {Q : XQ} (hfr : d0 + 1 ≤ Rm.frames) (hlo : 40 * (d0 + 1) ≤ Rm.locals)
    (hcl : ∀ (k : Nat) (as : XV) (S : XS) (I : XI) (J : XJ) (r : XR) (Q : XQ), cl k as S I J r Q → XMt l d0 dC dI sV k as S I J r Q)
    (hnx : ∀ (pc : Nat) (L st : XV) (S : XS) (I : XI) (J : XJ) (r : XR) (cu su : Nat), nx pc L st S I J r cu su → XW p l e9 Rm s m args below meth c dC dI A a0 n0 sV nL mc ms Zf pc L st S I J r cu su)
    (hret : ∀ (pc : Nat) (L : XV) (cu su : Nat) (v : Option Value) (S : XS) (I : XI) (J : XJ) (r : XR), Q v S I J r → xretOk rt v → decode cc pc = .ok (xri v, 1) → XW p l e9 Rm s m args below meth c dC dI A a0 n0 sV nL mc ms Zf pc L v.toList S I J r cu su) {len a b d h n e : Nat} {z : Int32} {w : Int64} (hK : ∀ (L st : XV) (S : XS) (I : XI) (J : XJ) (r : XR) (cu su : Nat), K L st S I J r cu su → XW p l e9 Rm s m args below meth c dC dI A a0 n0 sV nL mc ms Zf (pc + len) L st S I J r cu su) (hok : ck11 own cc nL rt ini law pc len a b d h n e z w = true) (hst : xst sc cl nx Q mc ms K (11, len, a, b, d, h, n, e, z, w) L st S I J r cu su) : XW p l e9 Rm s m args below meth c dC dI A a0 n0 sV nL mc ms Zf pc L st S I J r cu su := by
  unfold ck11 at hok
  simp only [Bool.or_eq_true, Bool.and_eq_true, beq_iff_eq, decide_eq_true_eq, Bool.not_eq_true'] at hok
  obtain ⟨rfl, hok⟩ := hok
  simp only [xst] at hst
  split at hst
  · rcases hok with ((((((((⟨rfl, h3⟩) | ⟨rfl, h3⟩) | ⟨rfl, h3⟩) | ⟨rfl, h3⟩) | ⟨rfl, h3⟩) | ⟨rfl, h3⟩) | ⟨rfl, h3⟩) | ⟨rfl, h3⟩) | ⟨rfl, h3⟩
    · exact xs_iadd F (xdec_ok h3) (hK _ _ _ _ _ _ _ _ hst)
    · exact xs_isub F (xdec_ok h3) (hK _ _ _ _ _ _ _ _ hst)
    · exact xs_imul F (xdec_ok h3) (hK _ _ _ _ _ _ _ _ hst)
    · exact xs_iand F (xdec_ok h3) (hK _ _ _ _ _ _ _ _ hst)
    · exact xs_ior F (xdec_ok h3) (hK _ _ _ _ _ _ _ _ hst)
    · exact xs_ixor F (xdec_ok h3) (hK _ _ _ _ _ _ _ _ hst)
    · exact xs_ishl F (xdec_ok h3) (hK _ _ _ _ _ _ _ _ hst)
    · exact xs_ishr F (xdec_ok h3) (hK _ _ _ _ _ _ _ _ hst)
    · exact xs_iushr F (xdec_ok h3) (hK _ _ _ _ _ _ _ _ hst)
  · exact hst.elim
theorem xi_12 (F : XFx p s m meth c args Rm cc own nL ini law sc mc ms A sV) {rt : Option FieldType} {d0 : Nat} {cl : XC} {nx : XN} {Q : XQ} (hfr : d0 + 1 ≤ Rm.frames) (hlo : 40 * (d0 + 1) ≤ Rm.locals)
    (hcl : ∀ (k : Nat) (as : XV) (S : XS) (I : XI) (J : XJ) (r : XR) (Q : XQ), cl k as S I J r Q → XMt l d0 dC dI sV k as S I J r Q)
    (hnx : ∀ (pc : Nat) (L st : XV) (S : XS) (I : XI) (J : XJ) (r : XR) (cu su : Nat), nx pc L st S I J r cu su → XW p l e9 Rm s m args below meth c dC dI A a0 n0 sV nL mc ms Zf pc L st S I J r cu su)
    (hret : ∀ (pc : Nat) (L : XV) (cu su : Nat) (v : Option Value) (S : XS) (I : XI) (J : XJ) (r : XR), Q v S I J r → xretOk rt v → decode cc pc = .ok (xri v, 1) → XW p l e9 Rm s m args below meth c dC dI A a0 n0 sV nL mc ms Zf pc L v.toList S I J r cu su) {len a b d h n e : Nat} {z : Int32} {w : Int64} (hK : ∀ (L st : XV) (S : XS) (I : XI) (J : XJ) (r : XR) (cu su : Nat), K L st S I J r cu su → XW p l e9 Rm s m args below meth c dC dI A a0 n0 sV nL mc ms Zf (pc + len) L st S I J r cu su) (hok : ck12 own cc nL rt ini law pc len a b d h n e z w = true) (hst : xst sc cl nx Q mc ms K (12, len, a, b, d, h, n, e, z, w) L st S I J r cu su) : XW p l e9 Rm s m args below meth c dC dI A a0 n0 sV nL mc ms Zf pc L st S I J r cu su := by
  unfold ck12 at hok
  simp only [Bool.or_eq_true, Bool.and_eq_true, beq_iff_eq, decide_eq_true_eq, Bool.not_eq_true'] at hok
  obtain ⟨rfl, hok⟩ := hok
  simp only [xst] at hst
  split at hst
  · obtain ⟨hy, hst⟩ := hst
    rcases hok with (⟨rfl, h3⟩) | ⟨rfl, h3⟩
    · exact xs_idiv F hy (xdec_ok h3) (hK _ _ _ _ _ _ _ _ hst)
    · exact xs_irem F hy (xdec_ok h3) (hK _ _ _ _ _ _ _ _ hst)
  · exact hst.elim
theorem xi_13 (F : XFx p s m meth c args Rm cc own nL ini law sc mc ms A sV) {rt : Option FieldType} {d0 : Nat} {cl : XC} {nx : XN} {Q : XQ} (hfr : d0 + 1 ≤ Rm.frames) (hlo : 40 * (d0 + 1) ≤ Rm.locals)
    (hcl : ∀ (k : Nat) (as : XV) (S : XS) (I : XI) (J : XJ) (r : XR) (Q : XQ), cl k as S I J r Q → XMt l d0 dC dI sV k as S I J r Q)
    (hnx : ∀ (pc : Nat) (L st : XV) (S : XS) (I : XI) (J : XJ) (r : XR) (cu su : Nat), nx pc L st S I J r cu su → XW p l e9 Rm s m args below meth c dC dI A a0 n0 sV nL mc ms Zf pc L st S I J r cu su)
    (hret : ∀ (pc : Nat) (L : XV) (cu su : Nat) (v : Option Value) (S : XS) (I : XI) (J : XJ) (r : XR), Q v S I J r → xretOk rt v → decode cc pc = .ok (xri v, 1) → XW p l e9 Rm s m args below meth c dC dI A a0 n0 sV nL mc ms Zf pc L v.toList S I J r cu su) {len a b d h n e : Nat} {z : Int32} {w : Int64} (hK : ∀ (L st : XV) (S : XS) (I : XI) (J : XJ) (r : XR) (cu su : Nat), K L st S I J r cu su → XW p l e9 Rm s m args below meth c dC dI A a0 n0 sV nL mc ms Zf (pc + len) L st S I J r cu su) (hok : ck13 own cc nL rt ini law pc len a b d h n e z w = true) (hst : xst sc cl nx Q mc ms K (13, len, a, b, d, h, n, e, z, w) L st S I J r cu su) : XW p l e9 Rm s m args below meth c dC dI A a0 n0 sV nL mc ms Zf pc L st S I J r cu su := by
  unfold ck13 at hok
  simp only [Bool.or_eq_true, Bool.and_eq_true, beq_iff_eq, decide_eq_true_eq, Bool.not_eq_true'] at hok
  obtain ⟨rfl, h3⟩ := hok
  simp only [xst] at hst
  split at hst
  · exact xs_ineg F (xdec_ok h3) (hK _ _ _ _ _ _ _ _ hst)
  · exact hst.elim
theorem xi_14 (F : XFx p s m meth c args Rm cc own nL ini law sc mc ms A sV) {rt : Option FieldType} {d0 : Nat} {cl : XC} {nx : XN} {Q : XQ} (hfr : d0 + 1 ≤ Rm.frames) (hlo : 40 * (d0 + 1) ≤ Rm.locals)
    (hcl : ∀ (k : Nat) (as : XV) (S : XS) (I : XI) (J : XJ) (r : XR) (Q : XQ), cl k as S I J r Q → XMt l d0 dC dI sV k as S I J r Q)
    (hnx : ∀ (pc : Nat) (L st : XV) (S : XS) (I : XI) (J : XJ) (r : XR) (cu su : Nat), nx pc L st S I J r cu su → XW p l e9 Rm s m args below meth c dC dI A a0 n0 sV nL mc ms Zf pc L st S I J r cu su)
    (hret : ∀ (pc : Nat) (L : XV) (cu su : Nat) (v : Option Value) (S : XS) (I : XI) (J : XJ) (r : XR), Q v S I J r → xretOk rt v → decode cc pc = .ok (xri v, 1) → XW p l e9 Rm s m args below meth c dC dI A a0 n0 sV nL mc ms Zf pc L v.toList S I J r cu su) {len a b d h n e : Nat} {z : Int32} {w : Int64} (hK : ∀ (L st : XV) (S : XS) (I : XI) (J : XJ) (r : XR) (cu su : Nat), K L st S I J r cu su → XW p l e9 Rm s m args below meth c dC dI A a0 n0 sV nL mc ms Zf (pc + len) L st S I J r cu su) (hok : ck14 own cc nL rt ini law pc len a b d h n e z w = true) (hst : xst sc cl nx Q mc ms K (14, len, a, b, d, h, n, e, z, w) L st S I J r cu su) : XW p l e9 Rm s m args below meth c dC dI A a0 n0 sV nL mc ms Zf pc L st S I J r cu su := by
  unfold ck14 at hok
  simp only [Bool.or_eq_true, Bool.and_eq_true, beq_iff_eq, decide_eq_true_eq, Bool.not_eq_true'] at hok
  obtain ⟨rfl, hok⟩ := hok
  simp only [xst] at hst
  split at hst
  · rcases hok with ((((⟨rfl, h3⟩) | ⟨rfl, h3⟩) | ⟨rfl, h3⟩) | ⟨rfl, h3⟩) | ⟨rfl, h3⟩
    · exact xs_ladd F (xdec_ok h3) (hK _ _ _ _ _ _ _ _ hst)
    · exact xs_lsub F (xdec_ok h3) (hK _ _ _ _ _ _ _ _ hst)
    · exact xs_lmul F (xdec_ok h3) (hK _ _ _ _ _ _ _ _ hst)
    · exact xs_land F (xdec_ok h3) (hK _ _ _ _ _ _ _ _ hst)
    · exact xs_lor F (xdec_ok h3) (hK _ _ _ _ _ _ _ _ hst)
  · exact hst.elim
theorem xi_15 (F : XFx p s m meth c args Rm cc own nL ini law sc mc ms A sV) {rt : Option FieldType} {d0 : Nat} {cl : XC} {nx : XN} {Q : XQ} (hfr : d0 + 1 ≤ Rm.frames) (hlo : 40 * (d0 + 1) ≤ Rm.locals)
    (hcl : ∀ (k : Nat) (as : XV) (S : XS) (I : XI) (J : XJ) (r : XR) (Q : XQ), cl k as S I J r Q → XMt l d0 dC dI sV k as S I J r Q)
    (hnx : ∀ (pc : Nat) (L st : XV) (S : XS) (I : XI) (J : XJ) (r : XR) (cu su : Nat), nx pc L st S I J r cu su → XW p l e9 Rm s m args below meth c dC dI A a0 n0 sV nL mc ms Zf pc L st S I J r cu su)
    (hret : ∀ (pc : Nat) (L : XV) (cu su : Nat) (v : Option Value) (S : XS) (I : XI) (J : XJ) (r : XR), Q v S I J r → xretOk rt v → decode cc pc = .ok (xri v, 1) → XW p l e9 Rm s m args below meth c dC dI A a0 n0 sV nL mc ms Zf pc L v.toList S I J r cu su) {len a b d h n e : Nat} {z : Int32} {w : Int64} (hK : ∀ (L st : XV) (S : XS) (I : XI) (J : XJ) (r : XR) (cu su : Nat), K L st S I J r cu su → XW p l e9 Rm s m args below meth c dC dI A a0 n0 sV nL mc ms Zf (pc + len) L st S I J r cu su) (hok : ck15 own cc nL rt ini law pc len a b d h n e z w = true) (hst : xst sc cl nx Q mc ms K (15, len, a, b, d, h, n, e, z, w) L st S I J r cu su) : XW p l e9 Rm s m args below meth c dC dI A a0 n0 sV nL mc ms Zf pc L st S I J r cu su := by
  unfold ck15 at hok
  simp only [Bool.or_eq_true, Bool.and_eq_true, beq_iff_eq, decide_eq_true_eq, Bool.not_eq_true'] at hok
  obtain ⟨rfl, hok⟩ := hok
  simp only [xst] at hst
  split at hst
  · obtain ⟨hy, hst⟩ := hst
    rcases hok with (⟨rfl, h3⟩) | ⟨rfl, h3⟩
    · exact xs_ldiv F hy (xdec_ok h3) (hK _ _ _ _ _ _ _ _ hst)
    · exact xs_lrem F hy (xdec_ok h3) (hK _ _ _ _ _ _ _ _ hst)
  · exact hst.elim
theorem xi_16 (F : XFx p s m meth c args Rm cc own nL ini law sc mc ms A sV) {rt : Option FieldType} {d0 : Nat} {cl : XC} {nx : XN} {Q : XQ} (hfr : d0 + 1 ≤ Rm.frames) (hlo : 40 * (d0 + 1) ≤ Rm.locals)
    (hcl : ∀ (k : Nat) (as : XV) (S : XS) (I : XI) (J : XJ) (r : XR) (Q : XQ), cl k as S I J r Q → XMt l d0 dC dI sV k as S I J r Q)
    (hnx : ∀ (pc : Nat) (L st : XV) (S : XS) (I : XI) (J : XJ) (r : XR) (cu su : Nat), nx pc L st S I J r cu su → XW p l e9 Rm s m args below meth c dC dI A a0 n0 sV nL mc ms Zf pc L st S I J r cu su)
    (hret : ∀ (pc : Nat) (L : XV) (cu su : Nat) (v : Option Value) (S : XS) (I : XI) (J : XJ) (r : XR), Q v S I J r → xretOk rt v → decode cc pc = .ok (xri v, 1) → XW p l e9 Rm s m args below meth c dC dI A a0 n0 sV nL mc ms Zf pc L v.toList S I J r cu su) {len a b d h n e : Nat} {z : Int32} {w : Int64} (hK : ∀ (L st : XV) (S : XS) (I : XI) (J : XJ) (r : XR) (cu su : Nat), K L st S I J r cu su → XW p l e9 Rm s m args below meth c dC dI A a0 n0 sV nL mc ms Zf (pc + len) L st S I J r cu su) (hok : ck16 own cc nL rt ini law pc len a b d h n e z w = true) (hst : xst sc cl nx Q mc ms K (16, len, a, b, d, h, n, e, z, w) L st S I J r cu su) : XW p l e9 Rm s m args below meth c dC dI A a0 n0 sV nL mc ms Zf pc L st S I J r cu su := by
  unfold ck16 at hok
  simp only [Bool.or_eq_true, Bool.and_eq_true, beq_iff_eq, decide_eq_true_eq, Bool.not_eq_true'] at hok
  obtain ⟨rfl, h3⟩ := hok
  simp only [xst] at hst
  split at hst
  · exact xs_lshl F (xdec_ok h3) (hK _ _ _ _ _ _ _ _ hst)
  · exact hst.elim
theorem xi_17 (F : XFx p s m meth c args Rm cc own nL ini law sc mc ms A sV) {rt : Option FieldType} {d0 : Nat} {cl : XC} {nx : XN} {Q : XQ} (hfr : d0 + 1 ≤ Rm.frames) (hlo : 40 * (d0 + 1) ≤ Rm.locals)
    (hcl : ∀ (k : Nat) (as : XV) (S : XS) (I : XI) (J : XJ) (r : XR) (Q : XQ), cl k as S I J r Q → XMt l d0 dC dI sV k as S I J r Q)
    (hnx : ∀ (pc : Nat) (L st : XV) (S : XS) (I : XI) (J : XJ) (r : XR) (cu su : Nat), nx pc L st S I J r cu su → XW p l e9 Rm s m args below meth c dC dI A a0 n0 sV nL mc ms Zf pc L st S I J r cu su)
    (hret : ∀ (pc : Nat) (L : XV) (cu su : Nat) (v : Option Value) (S : XS) (I : XI) (J : XJ) (r : XR), Q v S I J r → xretOk rt v → decode cc pc = .ok (xri v, 1) → XW p l e9 Rm s m args below meth c dC dI A a0 n0 sV nL mc ms Zf pc L v.toList S I J r cu su) {len a b d h n e : Nat} {z : Int32} {w : Int64} (hK : ∀ (L st : XV) (S : XS) (I : XI) (J : XJ) (r : XR) (cu su : Nat), K L st S I J r cu su → XW p l e9 Rm s m args below meth c dC dI A a0 n0 sV nL mc ms Zf (pc + len) L st S I J r cu su) (hok : ck17 own cc nL rt ini law pc len a b d h n e z w = true) (hst : xst sc cl nx Q mc ms K (17, len, a, b, d, h, n, e, z, w) L st S I J r cu su) : XW p l e9 Rm s m args below meth c dC dI A a0 n0 sV nL mc ms Zf pc L st S I J r cu su := by
  unfold ck17 at hok
  simp only [Bool.or_eq_true, Bool.and_eq_true, beq_iff_eq, decide_eq_true_eq, Bool.not_eq_true'] at hok
  obtain ⟨rfl, hok⟩ := hok
  rcases hok with (((((⟨rfl, h3⟩) | ⟨rfl, h3⟩) | ⟨rfl, h3⟩) | ⟨rfl, h3⟩) | ⟨rfl, h3⟩) | ⟨rfl, h3⟩
  · simp only [xst] at hst
    split at hst <;> first | exact hst.elim | (rename_i q9 _; cases q9; done) | skip
    all_goals first | exact xs_i2l F (xdec_ok h3) (hK _ _ _ _ _ _ _ _ hst) | (simp at *; done)
  · simp only [xst] at hst
    split at hst <;> first | exact hst.elim | (rename_i q9 _; cases q9; done) | skip
    all_goals first | exact xs_l2i F (xdec_ok h3) (hK _ _ _ _ _ _ _ _ hst) | (simp at *; done)
  · simp only [xst] at hst
    split at hst <;> first | exact hst.elim | (rename_i q9 _; cases q9; done) | skip
    all_goals first | exact xs_i2b F (xdec_ok h3) (hK _ _ _ _ _ _ _ _ hst) | (simp at *; done)
  · simp only [xst] at hst
    split at hst <;> first | exact hst.elim | (rename_i q9 _; cases q9; done) | skip
    all_goals first | exact xs_i2s F (xdec_ok h3) (hK _ _ _ _ _ _ _ _ hst) | (simp at *; done)
  · simp only [xst] at hst
    split at hst <;> first | exact hst.elim | (rename_i q9 _; cases q9; done) | skip
    all_goals first | exact xs_i2c F (xdec_ok h3) (hK _ _ _ _ _ _ _ _ hst) | (simp at *; done)
  · simp only [xst] at hst
    split at hst <;> first | exact hst.elim | (rename_i q9 _; cases q9; done) | skip
    all_goals first | exact xs_lneg F (xdec_ok h3) (hK _ _ _ _ _ _ _ _ hst) | (simp at *; done)
theorem xi_18 (F : XFx p s m meth c args Rm cc own nL ini law sc mc ms A sV) {rt : Option FieldType} {d0 : Nat} {cl : XC} {nx : XN} {Q : XQ} (hfr : d0 + 1 ≤ Rm.frames) (hlo : 40 * (d0 + 1) ≤ Rm.locals)
    (hcl : ∀ (k : Nat) (as : XV) (S : XS) (I : XI) (J : XJ) (r : XR) (Q : XQ), cl k as S I J r Q → XMt l d0 dC dI sV k as S I J r Q)
    (hnx : ∀ (pc : Nat) (L st : XV) (S : XS) (I : XI) (J : XJ) (r : XR) (cu su : Nat), nx pc L st S I J r cu su → XW p l e9 Rm s m args below meth c dC dI A a0 n0 sV nL mc ms Zf pc L st S I J r cu su)
    (hret : ∀ (pc : Nat) (L : XV) (cu su : Nat) (v : Option Value) (S : XS) (I : XI) (J : XJ) (r : XR), Q v S I J r → xretOk rt v → decode cc pc = .ok (xri v, 1) → XW p l e9 Rm s m args below meth c dC dI A a0 n0 sV nL mc ms Zf pc L v.toList S I J r cu su) {len a b d h n e : Nat} {z : Int32} {w : Int64} (hK : ∀ (L st : XV) (S : XS) (I : XI) (J : XJ) (r : XR) (cu su : Nat), K L st S I J r cu su → XW p l e9 Rm s m args below meth c dC dI A a0 n0 sV nL mc ms Zf (pc + len) L st S I J r cu su) (hok : ck18 own cc nL rt ini law pc len a b d h n e z w = true) (hst : xst sc cl nx Q mc ms K (18, len, a, b, d, h, n, e, z, w) L st S I J r cu su) : XW p l e9 Rm s m args below meth c dC dI A a0 n0 sV nL mc ms Zf pc L st S I J r cu su := by
  unfold ck18 at hok
  simp only [Bool.or_eq_true, Bool.and_eq_true, beq_iff_eq, decide_eq_true_eq, Bool.not_eq_true'] at hok
  obtain ⟨rfl, h3⟩ := hok
  simp only [xst] at hst
  split at hst
  · exact xs_lcmp F (xdec_ok h3) (hK _ _ _ _ _ _ _ _ hst)
  · exact hst.elim
theorem xi_19 (F : XFx p s m meth c args Rm cc own nL ini law sc mc ms A sV) {rt : Option FieldType} {d0 : Nat} {cl : XC} {nx : XN} {Q : XQ} (hfr : d0 + 1 ≤ Rm.frames) (hlo : 40 * (d0 + 1) ≤ Rm.locals)
    (hcl : ∀ (k : Nat) (as : XV) (S : XS) (I : XI) (J : XJ) (r : XR) (Q : XQ), cl k as S I J r Q → XMt l d0 dC dI sV k as S I J r Q)
    (hnx : ∀ (pc : Nat) (L st : XV) (S : XS) (I : XI) (J : XJ) (r : XR) (cu su : Nat), nx pc L st S I J r cu su → XW p l e9 Rm s m args below meth c dC dI A a0 n0 sV nL mc ms Zf pc L st S I J r cu su)
    (hret : ∀ (pc : Nat) (L : XV) (cu su : Nat) (v : Option Value) (S : XS) (I : XI) (J : XJ) (r : XR), Q v S I J r → xretOk rt v → decode cc pc = .ok (xri v, 1) → XW p l e9 Rm s m args below meth c dC dI A a0 n0 sV nL mc ms Zf pc L v.toList S I J r cu su) {len a b d h n e : Nat} {z : Int32} {w : Int64} (hK : ∀ (L st : XV) (S : XS) (I : XI) (J : XJ) (r : XR) (cu su : Nat), K L st S I J r cu su → XW p l e9 Rm s m args below meth c dC dI A a0 n0 sV nL mc ms Zf (pc + len) L st S I J r cu su) (hok : ck19 own cc nL rt ini law pc len a b d h n e z w = true) (hst : xst sc cl nx Q mc ms K (19, len, a, b, d, h, n, e, z, w) L st S I J r cu su) : XW p l e9 Rm s m args below meth c dC dI A a0 n0 sV nL mc ms Zf pc L st S I J r cu su := by
  unfold ck19 at hok
  simp only [Bool.or_eq_true, Bool.and_eq_true, beq_iff_eq, decide_eq_true_eq, Bool.not_eq_true'] at hok
  obtain ⟨rfl, h3⟩ := hok
  simp only [xst] at hst
  split at hst
  · exact xs_dup F hst.1 (xdec_ok h3) (hK _ _ _ _ _ _ _ _ hst.2)
  · exact hst.elim
theorem xi_20 (F : XFx p s m meth c args Rm cc own nL ini law sc mc ms A sV) {rt : Option FieldType} {d0 : Nat} {cl : XC} {nx : XN} {Q : XQ} (hfr : d0 + 1 ≤ Rm.frames) (hlo : 40 * (d0 + 1) ≤ Rm.locals)
    (hcl : ∀ (k : Nat) (as : XV) (S : XS) (I : XI) (J : XJ) (r : XR) (Q : XQ), cl k as S I J r Q → XMt l d0 dC dI sV k as S I J r Q)
    (hnx : ∀ (pc : Nat) (L st : XV) (S : XS) (I : XI) (J : XJ) (r : XR) (cu su : Nat), nx pc L st S I J r cu su → XW p l e9 Rm s m args below meth c dC dI A a0 n0 sV nL mc ms Zf pc L st S I J r cu su)
    (hret : ∀ (pc : Nat) (L : XV) (cu su : Nat) (v : Option Value) (S : XS) (I : XI) (J : XJ) (r : XR), Q v S I J r → xretOk rt v → decode cc pc = .ok (xri v, 1) → XW p l e9 Rm s m args below meth c dC dI A a0 n0 sV nL mc ms Zf pc L v.toList S I J r cu su) {len a b d h n e : Nat} {z : Int32} {w : Int64} (hK : ∀ (L st : XV) (S : XS) (I : XI) (J : XJ) (r : XR) (cu su : Nat), K L st S I J r cu su → XW p l e9 Rm s m args below meth c dC dI A a0 n0 sV nL mc ms Zf (pc + len) L st S I J r cu su) (hok : ck20 own cc nL rt ini law pc len a b d h n e z w = true) (hst : xst sc cl nx Q mc ms K (20, len, a, b, d, h, n, e, z, w) L st S I J r cu su) : XW p l e9 Rm s m args below meth c dC dI A a0 n0 sV nL mc ms Zf pc L st S I J r cu su := by
  unfold ck20 at hok
  simp only [Bool.or_eq_true, Bool.and_eq_true, beq_iff_eq, decide_eq_true_eq, Bool.not_eq_true'] at hok
  obtain ⟨rfl, h3⟩ := hok
  simp only [xst] at hst
  split at hst
  · exact xs_dup2 F hst.1 hst.2.1 (xdec_ok h3) (hK _ _ _ _ _ _ _ _ hst.2.2)
  · exact hst.elim
theorem xi_21 (F : XFx p s m meth c args Rm cc own nL ini law sc mc ms A sV) {rt : Option FieldType} {d0 : Nat} {cl : XC} {nx : XN} {Q : XQ} (hfr : d0 + 1 ≤ Rm.frames) (hlo : 40 * (d0 + 1) ≤ Rm.locals)
    (hcl : ∀ (k : Nat) (as : XV) (S : XS) (I : XI) (J : XJ) (r : XR) (Q : XQ), cl k as S I J r Q → XMt l d0 dC dI sV k as S I J r Q)
    (hnx : ∀ (pc : Nat) (L st : XV) (S : XS) (I : XI) (J : XJ) (r : XR) (cu su : Nat), nx pc L st S I J r cu su → XW p l e9 Rm s m args below meth c dC dI A a0 n0 sV nL mc ms Zf pc L st S I J r cu su)
    (hret : ∀ (pc : Nat) (L : XV) (cu su : Nat) (v : Option Value) (S : XS) (I : XI) (J : XJ) (r : XR), Q v S I J r → xretOk rt v → decode cc pc = .ok (xri v, 1) → XW p l e9 Rm s m args below meth c dC dI A a0 n0 sV nL mc ms Zf pc L v.toList S I J r cu su) {len a b d h n e : Nat} {z : Int32} {w : Int64} (hK : ∀ (L st : XV) (S : XS) (I : XI) (J : XJ) (r : XR) (cu su : Nat), K L st S I J r cu su → XW p l e9 Rm s m args below meth c dC dI A a0 n0 sV nL mc ms Zf (pc + len) L st S I J r cu su) (hok : ck21 own cc nL rt ini law pc len a b d h n e z w = true) (hst : xst sc cl nx Q mc ms K (21, len, a, b, d, h, n, e, z, w) L st S I J r cu su) : XW p l e9 Rm s m args below meth c dC dI A a0 n0 sV nL mc ms Zf pc L st S I J r cu su := by
  unfold ck21 at hok
  simp only [Bool.or_eq_true, Bool.and_eq_true, beq_iff_eq, decide_eq_true_eq, Bool.not_eq_true'] at hok
  obtain ⟨rfl, h3⟩ := hok
  simp only [xst] at hst
  split at hst
  · exact xs_pop F hst.1 (xdec_ok h3) (hK _ _ _ _ _ _ _ _ hst.2)
  · exact hst.elim
theorem xi_22 (F : XFx p s m meth c args Rm cc own nL ini law sc mc ms A sV) {rt : Option FieldType} {d0 : Nat} {cl : XC} {nx : XN} {Q : XQ} (hfr : d0 + 1 ≤ Rm.frames) (hlo : 40 * (d0 + 1) ≤ Rm.locals)
    (hcl : ∀ (k : Nat) (as : XV) (S : XS) (I : XI) (J : XJ) (r : XR) (Q : XQ), cl k as S I J r Q → XMt l d0 dC dI sV k as S I J r Q)
    (hnx : ∀ (pc : Nat) (L st : XV) (S : XS) (I : XI) (J : XJ) (r : XR) (cu su : Nat), nx pc L st S I J r cu su → XW p l e9 Rm s m args below meth c dC dI A a0 n0 sV nL mc ms Zf pc L st S I J r cu su)
    (hret : ∀ (pc : Nat) (L : XV) (cu su : Nat) (v : Option Value) (S : XS) (I : XI) (J : XJ) (r : XR), Q v S I J r → xretOk rt v → decode cc pc = .ok (xri v, 1) → XW p l e9 Rm s m args below meth c dC dI A a0 n0 sV nL mc ms Zf pc L v.toList S I J r cu su) {len a b d h n e : Nat} {z : Int32} {w : Int64} (hK : ∀ (L st : XV) (S : XS) (I : XI) (J : XJ) (r : XR) (cu su : Nat), K L st S I J r cu su → XW p l e9 Rm s m args below meth c dC dI A a0 n0 sV nL mc ms Zf (pc + len) L st S I J r cu su) (hok : ck22 own cc nL rt ini law pc len a b d h n e z w = true) (hst : xst sc cl nx Q mc ms K (22, len, a, b, d, h, n, e, z, w) L st S I J r cu su) : XW p l e9 Rm s m args below meth c dC dI A a0 n0 sV nL mc ms Zf pc L st S I J r cu su := by
  unfold ck22 at hok
  simp only [Bool.or_eq_true, Bool.and_eq_true, beq_iff_eq, decide_eq_true_eq, Bool.not_eq_true'] at hok
  obtain ⟨⟨rfl, h2⟩, h3⟩ := hok
  simp only [xst] at hst
  split at hst
  · exact xs_if F h2 (xdec_ok h3) (by omega) (fun q => hnx _ _ _ _ _ _ _ _ _ (hst.1 q)) (fun q => hK _ _ _ _ _ _ _ _ (hst.2 q))
  · exact hst.elim
theorem xi_23 (F : XFx p s m meth c args Rm cc own nL ini law sc mc ms A sV) {rt : Option FieldType} {d0 : Nat} {cl : XC} {nx : XN} {Q : XQ} (hfr : d0 + 1 ≤ Rm.frames) (hlo : 40 * (d0 + 1) ≤ Rm.locals)
    (hcl : ∀ (k : Nat) (as : XV) (S : XS) (I : XI) (J : XJ) (r : XR) (Q : XQ), cl k as S I J r Q → XMt l d0 dC dI sV k as S I J r Q)
    (hnx : ∀ (pc : Nat) (L st : XV) (S : XS) (I : XI) (J : XJ) (r : XR) (cu su : Nat), nx pc L st S I J r cu su → XW p l e9 Rm s m args below meth c dC dI A a0 n0 sV nL mc ms Zf pc L st S I J r cu su)
    (hret : ∀ (pc : Nat) (L : XV) (cu su : Nat) (v : Option Value) (S : XS) (I : XI) (J : XJ) (r : XR), Q v S I J r → xretOk rt v → decode cc pc = .ok (xri v, 1) → XW p l e9 Rm s m args below meth c dC dI A a0 n0 sV nL mc ms Zf pc L v.toList S I J r cu su) {len a b d h n e : Nat} {z : Int32} {w : Int64} (hK : ∀ (L st : XV) (S : XS) (I : XI) (J : XJ) (r : XR) (cu su : Nat), K L st S I J r cu su → XW p l e9 Rm s m args below meth c dC dI A a0 n0 sV nL mc ms Zf (pc + len) L st S I J r cu su) (hok : ck23 own cc nL rt ini law pc len a b d h n e z w = true) (hst : xst sc cl nx Q mc ms K (23, len, a, b, d, h, n, e, z, w) L st S I J r cu su) : XW p l e9 Rm s m args below meth c dC dI A a0 n0 sV nL mc ms Zf pc L st S I J r cu su := by
  unfold ck23 at hok
  simp only [Bool.or_eq_true, Bool.and_eq_true, beq_iff_eq, decide_eq_true_eq, Bool.not_eq_true'] at hok
  obtain ⟨⟨rfl, h2⟩, h3⟩ := hok
  simp only [xst] at hst
  split at hst
  · exact xs_icmp F h2 (xdec_ok h3) (by omega) (fun q => hnx _ _ _ _ _ _ _ _ _ (hst.1 q)) (fun q => hK _ _ _ _ _ _ _ _ (hst.2 q))
  · exact hst.elim
theorem xi_24 (F : XFx p s m meth c args Rm cc own nL ini law sc mc ms A sV) {rt : Option FieldType} {d0 : Nat} {cl : XC} {nx : XN} {Q : XQ} (hfr : d0 + 1 ≤ Rm.frames) (hlo : 40 * (d0 + 1) ≤ Rm.locals)
    (hcl : ∀ (k : Nat) (as : XV) (S : XS) (I : XI) (J : XJ) (r : XR) (Q : XQ), cl k as S I J r Q → XMt l d0 dC dI sV k as S I J r Q)
    (hnx : ∀ (pc : Nat) (L st : XV) (S : XS) (I : XI) (J : XJ) (r : XR) (cu su : Nat), nx pc L st S I J r cu su → XW p l e9 Rm s m args below meth c dC dI A a0 n0 sV nL mc ms Zf pc L st S I J r cu su)
    (hret : ∀ (pc : Nat) (L : XV) (cu su : Nat) (v : Option Value) (S : XS) (I : XI) (J : XJ) (r : XR), Q v S I J r → xretOk rt v → decode cc pc = .ok (xri v, 1) → XW p l e9 Rm s m args below meth c dC dI A a0 n0 sV nL mc ms Zf pc L v.toList S I J r cu su) {len a b d h n e : Nat} {z : Int32} {w : Int64} (hK : ∀ (L st : XV) (S : XS) (I : XI) (J : XJ) (r : XR) (cu su : Nat), K L st S I J r cu su → XW p l e9 Rm s m args below meth c dC dI A a0 n0 sV nL mc ms Zf (pc + len) L st S I J r cu su) (hok : ck24 own cc nL rt ini law pc len a b d h n e z w = true) (hst : xst sc cl nx Q mc ms K (24, len, a, b, d, h, n, e, z, w) L st S I J r cu su) : XW p l e9 Rm s m args below meth c dC dI A a0 n0 sV nL mc ms Zf pc L st S I J r cu su := by
  unfold ck24 at hok
  simp only [Bool.or_eq_true, Bool.and_eq_true, beq_iff_eq, decide_eq_true_eq, Bool.not_eq_true'] at hok
  rcases hok with ⟨h1, rfl⟩ | ⟨⟨h1, h2⟩, h3⟩
  · exact hnx _ _ _ _ _ _ _ _ _ hst
  · exact xs_goto F (xdec_ok h3) (by omega) (hnx _ _ _ _ _ _ _ _ _ hst)
theorem xi_25 (F : XFx p s m meth c args Rm cc own nL ini law sc mc ms A sV) {rt : Option FieldType} {d0 : Nat} {cl : XC} {nx : XN} {Q : XQ} (hfr : d0 + 1 ≤ Rm.frames) (hlo : 40 * (d0 + 1) ≤ Rm.locals)
    (hcl : ∀ (k : Nat) (as : XV) (S : XS) (I : XI) (J : XJ) (r : XR) (Q : XQ), cl k as S I J r Q → XMt l d0 dC dI sV k as S I J r Q)
    (hnx : ∀ (pc : Nat) (L st : XV) (S : XS) (I : XI) (J : XJ) (r : XR) (cu su : Nat), nx pc L st S I J r cu su → XW p l e9 Rm s m args below meth c dC dI A a0 n0 sV nL mc ms Zf pc L st S I J r cu su)
    (hret : ∀ (pc : Nat) (L : XV) (cu su : Nat) (v : Option Value) (S : XS) (I : XI) (J : XJ) (r : XR), Q v S I J r → xretOk rt v → decode cc pc = .ok (xri v, 1) → XW p l e9 Rm s m args below meth c dC dI A a0 n0 sV nL mc ms Zf pc L v.toList S I J r cu su) {len a b d h n e : Nat} {z : Int32} {w : Int64} (hK : ∀ (L st : XV) (S : XS) (I : XI) (J : XJ) (r : XR) (cu su : Nat), K L st S I J r cu su → XW p l e9 Rm s m args below meth c dC dI A a0 n0 sV nL mc ms Zf (pc + len) L st S I J r cu su) (hok : ck25 own cc nL rt ini law pc len a b d h n e z w = true) (hst : xst sc cl nx Q mc ms K (25, len, a, b, d, h, n, e, z, w) L st S I J r cu su) : XW p l e9 Rm s m args below meth c dC dI A a0 n0 sV nL mc ms Zf pc L st S I J r cu su := by
  unfold ck25 at hok
  simp only [Bool.or_eq_true, Bool.and_eq_true, beq_iff_eq, decide_eq_true_eq, Bool.not_eq_true'] at hok
  obtain ⟨rfl, hok⟩ := hok
  simp only [xst] at hst
  rcases hok with ⟨rfl, h3⟩ | ⟨rfl, h3⟩
  · rcases st with _ | ⟨v, st⟩
    · exact hst.elim
    cases v with
    | null => exact xs_ifnull_N (a := a) (x := 0) F (xdec_ok h3) (by omega) (hnx _ _ _ _ _ _ _ _ _ hst)
    | ref x => exact xs_ifnull_R (a := a) F (xdec_ok h3) (by omega) (hK _ _ _ _ _ _ _ _ hst)
    | _ => exact hst.elim
  · rcases st with _ | ⟨v, st⟩
    · exact hst.elim
    cases v with
    | null => exact xs_ifnonnull_N (a := a) (x := 0) F (xdec_ok h3) (by omega) (hK _ _ _ _ _ _ _ _ hst)
    | ref x => exact xs_ifnonnull_R (a := a) F (xdec_ok h3) (by omega) (hnx _ _ _ _ _ _ _ _ _ hst)
    | _ => exact hst.elim
theorem xi_26 (F : XFx p s m meth c args Rm cc own nL ini law sc mc ms A sV) {rt : Option FieldType} {d0 : Nat} {cl : XC} {nx : XN} {Q : XQ} (hfr : d0 + 1 ≤ Rm.frames) (hlo : 40 * (d0 + 1) ≤ Rm.locals)
    (hcl : ∀ (k : Nat) (as : XV) (S : XS) (I : XI) (J : XJ) (r : XR) (Q : XQ), cl k as S I J r Q → XMt l d0 dC dI sV k as S I J r Q)
    (hnx : ∀ (pc : Nat) (L st : XV) (S : XS) (I : XI) (J : XJ) (r : XR) (cu su : Nat), nx pc L st S I J r cu su → XW p l e9 Rm s m args below meth c dC dI A a0 n0 sV nL mc ms Zf pc L st S I J r cu su)
    (hret : ∀ (pc : Nat) (L : XV) (cu su : Nat) (v : Option Value) (S : XS) (I : XI) (J : XJ) (r : XR), Q v S I J r → xretOk rt v → decode cc pc = .ok (xri v, 1) → XW p l e9 Rm s m args below meth c dC dI A a0 n0 sV nL mc ms Zf pc L v.toList S I J r cu su) {len a b d h n e : Nat} {z : Int32} {w : Int64} (hK : ∀ (L st : XV) (S : XS) (I : XI) (J : XJ) (r : XR) (cu su : Nat), K L st S I J r cu su → XW p l e9 Rm s m args below meth c dC dI A a0 n0 sV nL mc ms Zf (pc + len) L st S I J r cu su) (hok : ck26 own cc nL rt ini law pc len a b d h n e z w = true) (hst : xst sc cl nx Q mc ms K (26, len, a, b, d, h, n, e, z, w) L st S I J r cu su) : XW p l e9 Rm s m args below meth c dC dI A a0 n0 sV nL mc ms Zf pc L st S I J r cu su := by
  unfold ck26 at hok
  simp only [xst] at hst
  split at hst
  · have k1 := hnx _ _ _ _ _ _ _ _ _ (xsw_swt _ hst)
    split at hok
    · rename_i df lo hi offs l9 hdec
      simp only [Bool.and_eq_true, decide_eq_true_eq] at hok
      obtain ⟨⟨h1, h2⟩, h3⟩ := hok
      refine xs_tsw F hdec h1 h2 (fun j hj => ?_) k1
      have h4 := List.all_eq_true.mp h3 j (List.mem_range.mpr hj)
      rw [Bool.and_eq_true] at h4
      refine ⟨of_decide_eq_true h4.1, ?_⟩
      cases hx : offs[j]? with
      | none => rw [hx] at h4; cases h4.2
      | some off => rw [hx] at h4; exact ⟨off, rfl, of_decide_eq_true h4.2⟩
    · rename_i df ps l9 hdec
      simp only [Bool.and_eq_true, decide_eq_true_eq] at hok
      exact xs_lsw F hdec hok.1.1 hok.1.2 hok.2 k1
    · cases hok
  · exact hst.elim
theorem xi_27 (F : XFx p s m meth c args Rm cc own nL ini law sc mc ms A sV) {rt : Option FieldType} {d0 : Nat} {cl : XC} {nx : XN} {Q : XQ} (hfr : d0 + 1 ≤ Rm.frames) (hlo : 40 * (d0 + 1) ≤ Rm.locals)
    (hcl : ∀ (k : Nat) (as : XV) (S : XS) (I : XI) (J : XJ) (r : XR) (Q : XQ), cl k as S I J r Q → XMt l d0 dC dI sV k as S I J r Q)
    (hnx : ∀ (pc : Nat) (L st : XV) (S : XS) (I : XI) (J : XJ) (r : XR) (cu su : Nat), nx pc L st S I J r cu su → XW p l e9 Rm s m args below meth c dC dI A a0 n0 sV nL mc ms Zf pc L st S I J r cu su)
    (hret : ∀ (pc : Nat) (L : XV) (cu su : Nat) (v : Option Value) (S : XS) (I : XI) (J : XJ) (r : XR), Q v S I J r → xretOk rt v → decode cc pc = .ok (xri v, 1) → XW p l e9 Rm s m args below meth c dC dI A a0 n0 sV nL mc ms Zf pc L v.toList S I J r cu su) {len a b d h n e : Nat} {z : Int32} {w : Int64} (hK : ∀ (L st : XV) (S : XS) (I : XI) (J : XJ) (r : XR) (cu su : Nat), K L st S I J r cu su → XW p l e9 Rm s m args below meth c dC dI A a0 n0 sV nL mc ms Zf (pc + len) L st S I J r cu su) (hok : ck27 own cc nL rt ini law pc len a b d h n e z w = true) (hst : xst sc cl nx Q mc ms K (27, len, a, b, d, h, n, e, z, w) L st S I J r cu su) : XW p l e9 Rm s m args below meth c dC dI A a0 n0 sV nL mc ms Zf pc L st S I J r cu su := by
  unfold ck27 at hok
  simp only [Bool.or_eq_true, Bool.and_eq_true, beq_iff_eq, decide_eq_true_eq, Bool.not_eq_true'] at hok
  obtain ⟨-, hok⟩ := hok
  simp only [xst] at hst
  rcases hok with ((((⟨⟨rfl, h1⟩, h2⟩ | ⟨⟨rfl, h1⟩, h2⟩) | ⟨⟨rfl, h1⟩, h2⟩) | ⟨⟨rfl, h1⟩, h2⟩) | ⟨⟨rfl, h1⟩, h2⟩) | ⟨⟨rfl, h1⟩, h2⟩
  · rcases st with _ | ⟨v, _ | ⟨u, st⟩⟩
    · exact hst.elim
    · cases v <;> first | exact hst.elim | skip
      rename_i x
      exact hret pc L cu su (some (.int x)) _ _ _ _ hst (by rw [h1]; rfl) (xdec_ok h2)
    · cases v <;> exact hst.elim
  · rcases st with _ | ⟨v, _ | ⟨u, st⟩⟩
    · exact hst.elim
    · cases v <;> first | exact hst.elim | skip
      rename_i x
      exact hret pc L cu su (some (.int x)) _ _ _ _ hst.2 (by rw [h1]; rcases hst.1 with e | e <;> rw [e] <;> rfl) (xdec_ok h2)
    · cases v <;> exact hst.elim
  · rcases st with _ | ⟨v, _ | ⟨u, st⟩⟩
    · exact hst.elim
    · cases v <;> first | exact hst.elim | skip
      rename_i x
      exact hret pc L cu su (some (.long x)) _ _ _ _ hst (by rw [h1]; trivial) (xdec_ok h2)
    · cases v <;> exact hst.elim
  · rcases st with _ | ⟨v, st⟩
    · exact hret pc L cu su none _ _ _ _ hst (by rw [h1]; trivial) (xdec_ok h2)
    · cases v <;> exact hst.elim
  · rcases st with _ | ⟨v, _ | ⟨u, st⟩⟩
    · exact hst.elim
    · cases v <;> first | exact hst.elim | skip
      rename_i x
      exact hret pc L cu su (some (.int x)) _ _ _ _ hst.2 (by rw [h1]; exact congrArg Value.int hst.1) (xdec_ok h2)
    · cases v <;> exact hst.elim
  · rcases st with _ | ⟨v, _ | ⟨u, st⟩⟩
    · exact hst.elim
    · cases v <;> first | exact hst.elim | skip
      rename_i x
      exact hret pc L cu su (some (.int x)) _ _ _ _ hst.2 (by rw [h1]; exact congrArg Value.int hst.1) (xdec_ok h2)
    · cases v <;> exact hst.elim
theorem xi_28 (F : XFx p s m meth c args Rm cc own nL ini law sc mc ms A sV) {rt : Option FieldType} {d0 : Nat} {cl : XC} {nx : XN} {Q : XQ} (hfr : d0 + 1 ≤ Rm.frames) (hlo : 40 * (d0 + 1) ≤ Rm.locals)
    (hcl : ∀ (k : Nat) (as : XV) (S : XS) (I : XI) (J : XJ) (r : XR) (Q : XQ), cl k as S I J r Q → XMt l d0 dC dI sV k as S I J r Q)
    (hnx : ∀ (pc : Nat) (L st : XV) (S : XS) (I : XI) (J : XJ) (r : XR) (cu su : Nat), nx pc L st S I J r cu su → XW p l e9 Rm s m args below meth c dC dI A a0 n0 sV nL mc ms Zf pc L st S I J r cu su)
    (hret : ∀ (pc : Nat) (L : XV) (cu su : Nat) (v : Option Value) (S : XS) (I : XI) (J : XJ) (r : XR), Q v S I J r → xretOk rt v → decode cc pc = .ok (xri v, 1) → XW p l e9 Rm s m args below meth c dC dI A a0 n0 sV nL mc ms Zf pc L v.toList S I J r cu su) {len a b d h n e : Nat} {z : Int32} {w : Int64} (hK : ∀ (L st : XV) (S : XS) (I : XI) (J : XJ) (r : XR) (cu su : Nat), K L st S I J r cu su → XW p l e9 Rm s m args below meth c dC dI A a0 n0 sV nL mc ms Zf (pc + len) L st S I J r cu su) (hok : ck28 own cc nL rt ini law pc len a b d h n e z w = true) (hst : xst sc cl nx Q mc ms K (28, len, a, b, d, h, n, e, z, w) L st S I J r cu su) : XW p l e9 Rm s m args below meth c dC dI A a0 n0 sV nL mc ms Zf pc L st S I J r cu su := by
  unfold ck28 at hok
  simp only [Bool.or_eq_true, Bool.and_eq_true, beq_iff_eq, decide_eq_true_eq, Bool.not_eq_true'] at hok
  obtain ⟨⟨⟨rfl, h1⟩, h2⟩, h3⟩ := hok
  exact xs_new F h1 (xw_in h2) (okK_in h1).1 (okK_in h1).2 (xdec_ok h3) hst.1 hst.2.1 (hK _ _ _ _ _ _ _ _ hst.2.2)
theorem xi_29 (F : XFx p s m meth c args Rm cc own nL ini law sc mc ms A sV) {rt : Option FieldType} {d0 : Nat} {cl : XC} {nx : XN} {Q : XQ} (hfr : d0 + 1 ≤ Rm.frames) (hlo : 40 * (d0 + 1) ≤ Rm.locals)
    (hcl : ∀ (k : Nat) (as : XV) (S : XS) (I : XI) (J : XJ) (r : XR) (Q : XQ), cl k as S I J r Q → XMt l d0 dC dI sV k as S I J r Q)
    (hnx : ∀ (pc : Nat) (L st : XV) (S : XS) (I : XI) (J : XJ) (r : XR) (cu su : Nat), nx pc L st S I J r cu su → XW p l e9 Rm s m args below meth c dC dI A a0 n0 sV nL mc ms Zf pc L st S I J r cu su)
    (hret : ∀ (pc : Nat) (L : XV) (cu su : Nat) (v : Option Value) (S : XS) (I : XI) (J : XJ) (r : XR), Q v S I J r → xretOk rt v → decode cc pc = .ok (xri v, 1) → XW p l e9 Rm s m args below meth c dC dI A a0 n0 sV nL mc ms Zf pc L v.toList S I J r cu su) {len a b d h n e : Nat} {z : Int32} {w : Int64} (hK : ∀ (L st : XV) (S : XS) (I : XI) (J : XJ) (r : XR) (cu su : Nat), K L st S I J r cu su → XW p l e9 Rm s m args below meth c dC dI A a0 n0 sV nL mc ms Zf (pc + len) L st S I J r cu su) (hok : ck29 own cc nL rt ini law pc len a b d h n e z w = true) (hst : xst sc cl nx Q mc ms K (29, len, a, b, d, h, n, e, z, w) L st S I J r cu su) : XW p l e9 Rm s m args below meth c dC dI A a0 n0 sV nL mc ms Zf pc L st S I J r cu su := by
  unfold ck29 at hok
  simp only [Bool.or_eq_true, Bool.and_eq_true, beq_iff_eq, decide_eq_true_eq, Bool.not_eq_true'] at hok
  obtain ⟨rfl, hok⟩ := hok
  simp only [xst] at hst
  split at hst
  · obtain ⟨g1, g2, g3, g4, hst⟩ := hst
    rcases hok with (⟨rfl, h3⟩ | ⟨rfl, h3⟩) | ⟨rfl, h3⟩
    · exact xs_newa (atype := .int) F rfl (Or.inl rfl) xc_ai (xdec_ok h3) g1 g2 g3 g4 (hK _ _ _ _ _ _ _ _ hst)
    · exact xs_newa (atype := .long) F rfl (Or.inr (Or.inl rfl)) xc_al (xdec_ok h3) g1 g2 g3 g4 (hK _ _ _ _ _ _ _ _ hst)
    · exact xs_newa (atype := .byte) F rfl (Or.inr (Or.inr rfl)) xc_ab (xdec_ok h3) g1 g2 g3 g4 (hK _ _ _ _ _ _ _ _ hst)
  · exact hst.elim
theorem xi_30 (F : XFx p s m meth c args Rm cc own nL ini law sc mc ms A sV) {rt : Option FieldType} {d0 : Nat} {cl : XC} {nx : XN} {Q : XQ} (hfr : d0 + 1 ≤ Rm.frames) (hlo : 40 * (d0 + 1) ≤ Rm.locals)
    (hcl : ∀ (k : Nat) (as : XV) (S : XS) (I : XI) (J : XJ) (r : XR) (Q : XQ), cl k as S I J r Q → XMt l d0 dC dI sV k as S I J r Q)
    (hnx : ∀ (pc : Nat) (L st : XV) (S : XS) (I : XI) (J : XJ) (r : XR) (cu su : Nat), nx pc L st S I J r cu su → XW p l e9 Rm s m args below meth c dC dI A a0 n0 sV nL mc ms Zf pc L st S I J r cu su)
    (hret : ∀ (pc : Nat) (L : XV) (cu su : Nat) (v : Option Value) (S : XS) (I : XI) (J : XJ) (r : XR), Q v S I J r → xretOk rt v → decode cc pc = .ok (xri v, 1) → XW p l e9 Rm s m args below meth c dC dI A a0 n0 sV nL mc ms Zf pc L v.toList S I J r cu su) {len a b d h n e : Nat} {z : Int32} {w : Int64} (hK : ∀ (L st : XV) (S : XS) (I : XI) (J : XJ) (r : XR) (cu su : Nat), K L st S I J r cu su → XW p l e9 Rm s m args below meth c dC dI A a0 n0 sV nL mc ms Zf (pc + len) L st S I J r cu su) (hok : ck30 own cc nL rt ini law pc len a b d h n e z w = true) (hst : xst sc cl nx Q mc ms K (30, len, a, b, d, h, n, e, z, w) L st S I J r cu su) : XW p l e9 Rm s m args below meth c dC dI A a0 n0 sV nL mc ms Zf pc L st S I J r cu su := by
  unfold ck30 at hok
  simp only [Bool.or_eq_true, Bool.and_eq_true, beq_iff_eq, decide_eq_true_eq, Bool.not_eq_true'] at hok
  obtain ⟨⟨rfl, h2⟩, h3⟩ := hok
  simp only [xst] at hst
  split at hst
  · obtain ⟨g1, g2, g3, g4, hst⟩ := hst
    exact xs_anewa F (xw_in h2) (xdec_ok h3) g1 g2 g3 g4 (hK _ _ _ _ _ _ _ _ hst)
  · exact hst.elim
theorem xi_31 (F : XFx p s m meth c args Rm cc own nL ini law sc mc ms A sV) {rt : Option FieldType} {d0 : Nat} {cl : XC} {nx : XN} {Q : XQ} (hfr : d0 + 1 ≤ Rm.frames) (hlo : 40 * (d0 + 1) ≤ Rm.locals)
    (hcl : ∀ (k : Nat) (as : XV) (S : XS) (I : XI) (J : XJ) (r : XR) (Q : XQ), cl k as S I J r Q → XMt l d0 dC dI sV k as S I J r Q)
    (hnx : ∀ (pc : Nat) (L st : XV) (S : XS) (I : XI) (J : XJ) (r : XR) (cu su : Nat), nx pc L st S I J r cu su → XW p l e9 Rm s m args below meth c dC dI A a0 n0 sV nL mc ms Zf pc L st S I J r cu su)
    (hret : ∀ (pc : Nat) (L : XV) (cu su : Nat) (v : Option Value) (S : XS) (I : XI) (J : XJ) (r : XR), Q v S I J r → xretOk rt v → decode cc pc = .ok (xri v, 1) → XW p l e9 Rm s m args below meth c dC dI A a0 n0 sV nL mc ms Zf pc L v.toList S I J r cu su) {len a b d h n e : Nat} {z : Int32} {w : Int64} (hK : ∀ (L st : XV) (S : XS) (I : XI) (J : XJ) (r : XR) (cu su : Nat), K L st S I J r cu su → XW p l e9 Rm s m args below meth c dC dI A a0 n0 sV nL mc ms Zf (pc + len) L st S I J r cu su) (hok : ck31 own cc nL rt ini law pc len a b d h n e z w = true) (hst : xst sc cl nx Q mc ms K (31, len, a, b, d, h, n, e, z, w) L st S I J r cu su) : XW p l e9 Rm s m args below meth c dC dI A a0 n0 sV nL mc ms Zf pc L st S I J r cu su := by
  unfold ck31 at hok
  simp only [Bool.or_eq_true, Bool.and_eq_true, beq_iff_eq, decide_eq_true_eq, Bool.not_eq_true'] at hok
  obtain ⟨⟨rfl, h2⟩, h3⟩ := hok
  simp only [xst] at hst
  split at hst
  · obtain ⟨⟨q0, n1, g1⟩, rfl, rfl, g4, g5, hst⟩ := hst
    exact xs_mna F (xw_in h2) xc_al (xdec_ok h3) g1 g4 g5 (hK _ _ _ _ _ _ _ _ hst)
  · exact hst.elim
theorem xi_32 (F : XFx p s m meth c args Rm cc own nL ini law sc mc ms A sV) {rt : Option FieldType} {d0 : Nat} {cl : XC} {nx : XN} {Q : XQ} (hfr : d0 + 1 ≤ Rm.frames) (hlo : 40 * (d0 + 1) ≤ Rm.locals)
    (hcl : ∀ (k : Nat) (as : XV) (S : XS) (I : XI) (J : XJ) (r : XR) (Q : XQ), cl k as S I J r Q → XMt l d0 dC dI sV k as S I J r Q)
    (hnx : ∀ (pc : Nat) (L st : XV) (S : XS) (I : XI) (J : XJ) (r : XR) (cu su : Nat), nx pc L st S I J r cu su → XW p l e9 Rm s m args below meth c dC dI A a0 n0 sV nL mc ms Zf pc L st S I J r cu su)
    (hret : ∀ (pc : Nat) (L : XV) (cu su : Nat) (v : Option Value) (S : XS) (I : XI) (J : XJ) (r : XR), Q v S I J r → xretOk rt v → decode cc pc = .ok (xri v, 1) → XW p l e9 Rm s m args below meth c dC dI A a0 n0 sV nL mc ms Zf pc L v.toList S I J r cu su) {len a b d h n e : Nat} {z : Int32} {w : Int64} (hK : ∀ (L st : XV) (S : XS) (I : XI) (J : XJ) (r : XR) (cu su : Nat), K L st S I J r cu su → XW p l e9 Rm s m args below meth c dC dI A a0 n0 sV nL mc ms Zf (pc + len) L st S I J r cu su) (hok : ck32 own cc nL rt ini law pc len a b d h n e z w = true) (hst : xst sc cl nx Q mc ms K (32, len, a, b, d, h, n, e, z, w) L st S I J r cu su) : XW p l e9 Rm s m args below meth c dC dI A a0 n0 sV nL mc ms Zf pc L st S I J r cu su := by
  unfold ck32 at hok
  simp only [Bool.or_eq_true, Bool.and_eq_true, beq_iff_eq, decide_eq_true_eq, Bool.not_eq_true'] at hok
  obtain ⟨rfl, h3⟩ := hok
  simp only [xst] at hst
  split at hst
  · obtain ⟨t, n, g1, g2, hst⟩ := hst
    exact xs_alen F g1 g2 (xdec_ok h3) (hK _ _ _ _ _ _ _ _ hst)
  · exact hst.elim
theorem xi_33 (F : XFx p s m meth c args Rm cc own nL ini law sc mc ms A sV) {rt : Option FieldType} {d0 : Nat} {cl : XC} {nx : XN} {Q : XQ} (hfr : d0 + 1 ≤ Rm.frames) (hlo : 40 * (d0 + 1) ≤ Rm.locals)
    (hcl : ∀ (k : Nat) (as : XV) (S : XS) (I : XI) (J : XJ) (r : XR) (Q : XQ), cl k as S I J r Q → XMt l d0 dC dI sV k as S I J r Q)
    (hnx : ∀ (pc : Nat) (L st : XV) (S : XS) (I : XI) (J : XJ) (r : XR) (cu su : Nat), nx pc L st S I J r cu su → XW p l e9 Rm s m args below meth c dC dI A a0 n0 sV nL mc ms Zf pc L st S I J r cu su)
    (hret : ∀ (pc : Nat) (L : XV) (cu su : Nat) (v : Option Value) (S : XS) (I : XI) (J : XJ) (r : XR), Q v S I J r → xretOk rt v → decode cc pc = .ok (xri v, 1) → XW p l e9 Rm s m args below meth c dC dI A a0 n0 sV nL mc ms Zf pc L v.toList S I J r cu su) {len a b d h n e : Nat} {z : Int32} {w : Int64} (hK : ∀ (L st : XV) (S : XS) (I : XI) (J : XJ) (r : XR) (cu su : Nat), K L st S I J r cu su → XW p l e9 Rm s m args below meth c dC dI A a0 n0 sV nL mc ms Zf (pc + len) L st S I J r cu su) (hok : ck33 own cc nL rt ini law pc len a b d h n e z w = true) (hst : xst sc cl nx Q mc ms K (33, len, a, b, d, h, n, e, z, w) L st S I J r cu su) : XW p l e9 Rm s m args below meth c dC dI A a0 n0 sV nL mc ms Zf pc L st S I J r cu su := by
  unfold ck33 at hok
  simp only [Bool.or_eq_true, Bool.and_eq_true, beq_iff_eq, decide_eq_true_eq, Bool.not_eq_true'] at hok
  obtain ⟨rfl, h3⟩ := hok
  simp only [xst] at hst
  split at hst
  · obtain ⟨n, g1, g2, hst⟩ := hst
    exact xs_iald F g1 g2 (xdec_ok h3) (hK _ _ _ _ _ _ _ _ hst)
  · exact hst.elim
theorem xi_34 (F : XFx p s m meth c args Rm cc own nL ini law sc mc ms A sV) {rt : Option FieldType} {d0 : Nat} {cl : XC} {nx : XN} {Q : XQ} (hfr : d0 + 1 ≤ Rm.frames) (hlo : 40 * (d0 + 1) ≤ Rm.locals)
    (hcl : ∀ (k : Nat) (as : XV) (S : XS) (I : XI) (J : XJ) (r : XR) (Q : XQ), cl k as S I J r Q → XMt l d0 dC dI sV k as S I J r Q)
    (hnx : ∀ (pc : Nat) (L st : XV) (S : XS) (I : XI) (J : XJ) (r : XR) (cu su : Nat), nx pc L st S I J r cu su → XW p l e9 Rm s m args below meth c dC dI A a0 n0 sV nL mc ms Zf pc L st S I J r cu su)
    (hret : ∀ (pc : Nat) (L : XV) (cu su : Nat) (v : Option Value) (S : XS) (I : XI) (J : XJ) (r : XR), Q v S I J r → xretOk rt v → decode cc pc = .ok (xri v, 1) → XW p l e9 Rm s m args below meth c dC dI A a0 n0 sV nL mc ms Zf pc L v.toList S I J r cu su) {len a b d h n e : Nat} {z : Int32} {w : Int64} (hK : ∀ (L st : XV) (S : XS) (I : XI) (J : XJ) (r : XR) (cu su : Nat), K L st S I J r cu su → XW p l e9 Rm s m args below meth c dC dI A a0 n0 sV nL mc ms Zf (pc + len) L st S I J r cu su) (hok : ck34 own cc nL rt ini law pc len a b d h n e z w = true) (hst : xst sc cl nx Q mc ms K (34, len, a, b, d, h, n, e, z, w) L st S I J r cu su) : XW p l e9 Rm s m args below meth c dC dI A a0 n0 sV nL mc ms Zf pc L st S I J r cu su := by
  unfold ck34 at hok
  simp only [Bool.or_eq_true, Bool.and_eq_true, beq_iff_eq, decide_eq_true_eq, Bool.not_eq_true'] at hok
  obtain ⟨rfl, h3⟩ := hok
  simp only [xst] at hst
  split at hst
  · obtain ⟨n, g1, g2, hst⟩ := hst
    exact xs_iast F g1 g2 (xdec_ok h3) (hK _ _ _ _ _ _ _ _ hst)
  · exact hst.elim
theorem xi_35 (F : XFx p s m meth c args Rm cc own nL ini law sc mc ms A sV) {rt : Option FieldType} {d0 : Nat} {cl : XC} {nx : XN} {Q : XQ} (hfr : d0 + 1 ≤ Rm.frames) (hlo : 40 * (d0 + 1) ≤ Rm.locals)
    (hcl : ∀ (k : Nat) (as : XV) (S : XS) (I : XI) (J : XJ) (r : XR) (Q : XQ), cl k as S I J r Q → XMt l d0 dC dI sV k as S I J r Q)
    (hnx : ∀ (pc : Nat) (L st : XV) (S : XS) (I : XI) (J : XJ) (r : XR) (cu su : Nat), nx pc L st S I J r cu su → XW p l e9 Rm s m args below meth c dC dI A a0 n0 sV nL mc ms Zf pc L st S I J r cu su)
    (hret : ∀ (pc : Nat) (L : XV) (cu su : Nat) (v : Option Value) (S : XS) (I : XI) (J : XJ) (r : XR), Q v S I J r → xretOk rt v → decode cc pc = .ok (xri v, 1) → XW p l e9 Rm s m args below meth c dC dI A a0 n0 sV nL mc ms Zf pc L v.toList S I J r cu su) {len a b d h n e : Nat} {z : Int32} {w : Int64} (hK : ∀ (L st : XV) (S : XS) (I : XI) (J : XJ) (r : XR) (cu su : Nat), K L st S I J r cu su → XW p l e9 Rm s m args below meth c dC dI A a0 n0 sV nL mc ms Zf (pc + len) L st S I J r cu su) (hok : ck35 own cc nL rt ini law pc len a b d h n e z w = true) (hst : xst sc cl nx Q mc ms K (35, len, a, b, d, h, n, e, z, w) L st S I J r cu su) : XW p l e9 Rm s m args below meth c dC dI A a0 n0 sV nL mc ms Zf pc L st S I J r cu su := by
  unfold ck35 at hok
  simp only [Bool.or_eq_true, Bool.and_eq_true, beq_iff_eq, decide_eq_true_eq, Bool.not_eq_true'] at hok
  obtain ⟨rfl, h3⟩ := hok
  simp only [xst] at hst
  split at hst
  · obtain ⟨n, g1, g2, hst⟩ := hst
    exact xs_lald F g1 g2 (xdec_ok h3) (hK _ _ _ _ _ _ _ _ hst)
  · exact hst.elim
theorem xi_36 (F : XFx p s m meth c args Rm cc own nL ini law sc mc ms A sV) {rt : Option FieldType} {d0 : Nat} {cl : XC} {nx : XN} {Q : XQ} (hfr : d0 + 1 ≤ Rm.frames) (hlo : 40 * (d0 + 1) ≤ Rm.locals)
    (hcl : ∀ (k : Nat) (as : XV) (S : XS) (I : XI) (J : XJ) (r : XR) (Q : XQ), cl k as S I J r Q → XMt l d0 dC dI sV k as S I J r Q)
    (hnx : ∀ (pc : Nat) (L st : XV) (S : XS) (I : XI) (J : XJ) (r : XR) (cu su : Nat), nx pc L st S I J r cu su → XW p l e9 Rm s m args below meth c dC dI A a0 n0 sV nL mc ms Zf pc L st S I J r cu su)
    (hret : ∀ (pc : Nat) (L : XV) (cu su : Nat) (v : Option Value) (S : XS) (I : XI) (J : XJ) (r : XR), Q v S I J r → xretOk rt v → decode cc pc = .ok (xri v, 1) → XW p l e9 Rm s m args below meth c dC dI A a0 n0 sV nL mc ms Zf pc L v.toList S I J r cu su) {len a b d h n e : Nat} {z : Int32} {w : Int64} (hK : ∀ (L st : XV) (S : XS) (I : XI) (J : XJ) (r : XR) (cu su : Nat), K L st S I J r cu su → XW p l e9 Rm s m args below meth c dC dI A a0 n0 sV nL mc ms Zf (pc + len) L st S I J r cu su) (hok : ck36 own cc nL rt ini law pc len a b d h n e z w = true) (hst : xst sc cl nx Q mc ms K (36, len, a, b, d, h, n, e, z, w) L st S I J r cu su) : XW p l e9 Rm s m args below meth c dC dI A a0 n0 sV nL mc ms Zf pc L st S I J r cu su := by
  unfold ck36 at hok
  simp only [Bool.or_eq_true, Bool.and_eq_true, beq_iff_eq, decide_eq_true_eq, Bool.not_eq_true'] at hok
  obtain ⟨rfl, h3⟩ := hok
  simp only [xst] at hst
  split at hst
  · obtain ⟨n, g1, g2, hst⟩ := hst
    exact xs_last F g1 g2 (xdec_ok h3) (hK _ _ _ _ _ _ _ _ hst)
  · exact hst.elim
theorem xi_37 (F : XFx p s m meth c args Rm cc own nL ini law sc mc ms A sV) {rt : Option FieldType} {d0 : Nat} {cl : XC} {nx : XN} {Q : XQ} (hfr : d0 + 1 ≤ Rm.frames) (hlo : 40 * (d0 + 1) ≤ Rm.locals)
    (hcl : ∀ (k : Nat) (as : XV) (S : XS) (I : XI) (J : XJ) (r : XR) (Q : XQ), cl k as S I J r Q → XMt l d0 dC dI sV k as S I J r Q)
    (hnx : ∀ (pc : Nat) (L st : XV) (S : XS) (I : XI) (J : XJ) (r : XR) (cu su : Nat), nx pc L st S I J r cu su → XW p l e9 Rm s m args below meth c dC dI A a0 n0 sV nL mc ms Zf pc L st S I J r cu su)
    (hret : ∀ (pc : Nat) (L : XV) (cu su : Nat) (v : Option Value) (S : XS) (I : XI) (J : XJ) (r : XR), Q v S I J r → xretOk rt v → decode cc pc = .ok (xri v, 1) → XW p l e9 Rm s m args below meth c dC dI A a0 n0 sV nL mc ms Zf pc L v.toList S I J r cu su) {len a b d h n e : Nat} {z : Int32} {w : Int64} (hK : ∀ (L st : XV) (S : XS) (I : XI) (J : XJ) (r : XR) (cu su : Nat), K L st S I J r cu su → XW p l e9 Rm s m args below meth c dC dI A a0 n0 sV nL mc ms Zf (pc + len) L st S I J r cu su) (hok : ck37 own cc nL rt ini law pc len a b d h n e z w = true) (hst : xst sc cl nx Q mc ms K (37, len, a, b, d, h, n, e, z, w) L st S I J r cu su) : XW p l e9 Rm s m args below meth c dC dI A a0 n0 sV nL mc ms Zf pc L st S I J r cu su := by
  unfold ck37 at hok
  simp only [Bool.or_eq_true, Bool.and_eq_true, beq_iff_eq, decide_eq_true_eq, Bool.not_eq_true'] at hok
  obtain ⟨rfl, h3⟩ := hok
  simp only [xst] at hst
  split at hst
  · obtain ⟨n, g1, g2, hst⟩ := hst
    exact xs_bald F g1 g2 (xdec_ok h3) (hK _ _ _ _ _ _ _ _ hst)
  · exact hst.elim
theorem xi_38 (F : XFx p s m meth c args Rm cc own nL ini law sc mc ms A sV) {rt : Option FieldType} {d0 : Nat} {cl : XC} {nx : XN} {Q : XQ} (hfr : d0 + 1 ≤ Rm.frames) (hlo : 40 * (d0 + 1) ≤ Rm.locals)
    (hcl : ∀ (k : Nat) (as : XV) (S : XS) (I : XI) (J : XJ) (r : XR) (Q : XQ), cl k as S I J r Q → XMt l d0 dC dI sV k as S I J r Q)
    (hnx : ∀ (pc : Nat) (L st : XV) (S : XS) (I : XI) (J : XJ) (r : XR) (cu su : Nat), nx pc L st S I J r cu su → XW p l e9 Rm s m args below meth c dC dI A a0 n0 sV nL mc ms Zf pc L st S I J r cu su)
    (hret : ∀ (pc : Nat) (L : XV) (cu su : Nat) (v : Option Value) (S : XS) (I : XI) (J : XJ) (r : XR), Q v S I J r → xretOk rt v → decode cc pc = .ok (xri v, 1) → XW p l e9 Rm s m args below meth c dC dI A a0 n0 sV nL mc ms Zf pc L v.toList S I J r cu su) {len a b d h n e : Nat} {z : Int32} {w : Int64} (hK : ∀ (L st : XV) (S : XS) (I : XI) (J : XJ) (r : XR) (cu su : Nat), K L st S I J r cu su → XW p l e9 Rm s m args below meth c dC dI A a0 n0 sV nL mc ms Zf (pc + len) L st S I J r cu su) (hok : ck38 own cc nL rt ini law pc len a b d h n e z w = true) (hst : xst sc cl nx Q mc ms K (38, len, a, b, d, h, n, e, z, w) L st S I J r cu su) : XW p l e9 Rm s m args below meth c dC dI A a0 n0 sV nL mc ms Zf pc L st S I J r cu su := by
  unfold ck38 at hok
  simp only [Bool.or_eq_true, Bool.and_eq_true, beq_iff_eq, decide_eq_true_eq, Bool.not_eq_true'] at hok
  obtain ⟨rfl, h3⟩ := hok
  simp only [xst] at hst
  split at hst
  · obtain ⟨n, g1, g2, hst⟩ := hst
    exact xs_bast F g1 g2 (xdec_ok h3) (hK _ _ _ _ _ _ _ _ hst)
  · exact hst.elim
theorem xi_39 (F : XFx p s m meth c args Rm cc own nL ini law sc mc ms A sV) {rt : Option FieldType} {d0 : Nat} {cl : XC} {nx : XN} {Q : XQ} (hfr : d0 + 1 ≤ Rm.frames) (hlo : 40 * (d0 + 1) ≤ Rm.locals)
    (hcl : ∀ (k : Nat) (as : XV) (S : XS) (I : XI) (J : XJ) (r : XR) (Q : XQ), cl k as S I J r Q → XMt l d0 dC dI sV k as S I J r Q)
    (hnx : ∀ (pc : Nat) (L st : XV) (S : XS) (I : XI) (J : XJ) (r : XR) (cu su : Nat), nx pc L st S I J r cu su → XW p l e9 Rm s m args below meth c dC dI A a0 n0 sV nL mc ms Zf pc L st S I J r cu su)
    (hret : ∀ (pc : Nat) (L : XV) (cu su : Nat) (v : Option Value) (S : XS) (I : XI) (J : XJ) (r : XR), Q v S I J r → xretOk rt v → decode cc pc = .ok (xri v, 1) → XW p l e9 Rm s m args below meth c dC dI A a0 n0 sV nL mc ms Zf pc L v.toList S I J r cu su) {len a b d h n e : Nat} {z : Int32} {w : Int64} (hK : ∀ (L st : XV) (S : XS) (I : XI) (J : XJ) (r : XR) (cu su : Nat), K L st S I J r cu su → XW p l e9 Rm s m args below meth c dC dI A a0 n0 sV nL mc ms Zf (pc + len) L st S I J r cu su) (hok : ck39 own cc nL rt ini law pc len a b d h n e z w = true) (hst : xst sc cl nx Q mc ms K (39, len, a, b, d, h, n, e, z, w) L st S I J r cu su) : XW p l e9 Rm s m args below meth c dC dI A a0 n0 sV nL mc ms Zf pc L st S I J r cu su := by
  unfold ck39 at hok
  simp only [Bool.or_eq_true, Bool.and_eq_true, beq_iff_eq, decide_eq_true_eq, Bool.not_eq_true'] at hok
  obtain ⟨rfl, h3⟩ := hok
  simp only [xst] at hst
  split at hst
  · obtain ⟨t, n, g1, g2, g3, hst⟩ := hst
    exact xs_aald F g1 g2 g3 (xdec_ok h3) (hK _ _ _ _ _ _ _ _ hst)
  · exact hst.elim
theorem xi_40 (F : XFx p s m meth c args Rm cc own nL ini law sc mc ms A sV) {rt : Option FieldType} {d0 : Nat} {cl : XC} {nx : XN} {Q : XQ} (hfr : d0 + 1 ≤ Rm.frames) (hlo : 40 * (d0 + 1) ≤ Rm.locals)
    (hcl : ∀ (k : Nat) (as : XV) (S : XS) (I : XI) (J : XJ) (r : XR) (Q : XQ), cl k as S I J r Q → XMt l d0 dC dI sV k as S I J r Q)
    (hnx : ∀ (pc : Nat) (L st : XV) (S : XS) (I : XI) (J : XJ) (r : XR) (cu su : Nat), nx pc L st S I J r cu su → XW p l e9 Rm s m args below meth c dC dI A a0 n0 sV nL mc ms Zf pc L st S I J r cu su)
    (hret : ∀ (pc : Nat) (L : XV) (cu su : Nat) (v : Option Value) (S : XS) (I : XI) (J : XJ) (r : XR), Q v S I J r → xretOk rt v → decode cc pc = .ok (xri v, 1) → XW p l e9 Rm s m args below meth c dC dI A a0 n0 sV nL mc ms Zf pc L v.toList S I J r cu su) {len a b d h n e : Nat} {z : Int32} {w : Int64} (hK : ∀ (L st : XV) (S : XS) (I : XI) (J : XJ) (r : XR) (cu su : Nat), K L st S I J r cu su → XW p l e9 Rm s m args below meth c dC dI A a0 n0 sV nL mc ms Zf (pc + len) L st S I J r cu su) (hok : ck40 own cc nL rt ini law pc len a b d h n e z w = true) (hst : xst sc cl nx Q mc ms K (40, len, a, b, d, h, n, e, z, w) L st S I J r cu su) : XW p l e9 Rm s m args below meth c dC dI A a0 n0 sV nL mc ms Zf pc L st S I J r cu su := by
  unfold ck40 at hok
  simp only [Bool.or_eq_true, Bool.and_eq_true, beq_iff_eq, decide_eq_true_eq, Bool.not_eq_true'] at hok
  obtain ⟨rfl, h3⟩ := hok
  simp only [xst] at hst
  split at hst
  · obtain ⟨n, g1, g2, g3, hst⟩ := hst
    exact xs_aast F g1 g2 g3 (xdec_ok h3) (hK _ _ _ _ _ _ _ _ hst)
  · exact hst.elim
theorem xi_42 (F : XFx p s m meth c args Rm cc own nL ini law sc mc ms A sV) {rt : Option FieldType} {d0 : Nat} {cl : XC} {nx : XN} {Q : XQ} (hfr : d0 + 1 ≤ Rm.frames) (hlo : 40 * (d0 + 1) ≤ Rm.locals)
    (hcl : ∀ (k : Nat) (as : XV) (S : XS) (I : XI) (J : XJ) (r : XR) (Q : XQ), cl k as S I J r Q → XMt l d0 dC dI sV k as S I J r Q)
    (hnx : ∀ (pc : Nat) (L st : XV) (S : XS) (I : XI) (J : XJ) (r : XR) (cu su : Nat), nx pc L st S I J r cu su → XW p l e9 Rm s m args below meth c dC dI A a0 n0 sV nL mc ms Zf pc L st S I J r cu su)
    (hret : ∀ (pc : Nat) (L : XV) (cu su : Nat) (v : Option Value) (S : XS) (I : XI) (J : XJ) (r : XR), Q v S I J r → xretOk rt v → decode cc pc = .ok (xri v, 1) → XW p l e9 Rm s m args below meth c dC dI A a0 n0 sV nL mc ms Zf pc L v.toList S I J r cu su) {len a b d h n e : Nat} {z : Int32} {w : Int64} (hK : ∀ (L st : XV) (S : XS) (I : XI) (J : XJ) (r : XR) (cu su : Nat), K L st S I J r cu su → XW p l e9 Rm s m args below meth c dC dI A a0 n0 sV nL mc ms Zf (pc + len) L st S I J r cu su) (hok : ck42 own cc nL rt ini law pc len a b d h n e z w = true) (hst : xst sc cl nx Q mc ms K (42, len, a, b, d, h, n, e, z, w) L st S I J r cu su) : XW p l e9 Rm s m args below meth c dC dI A a0 n0 sV nL mc ms Zf pc L st S I J r cu su := by
  unfold ck42 at hok
  simp only [Bool.or_eq_true, Bool.and_eq_true, beq_iff_eq, decide_eq_true_eq, Bool.not_eq_true'] at hok
  obtain ⟨⟨⟨⟨⟨rfl, h1⟩, h2⟩, h3⟩, h4⟩, h5⟩ := hok
  simp only [xst] at hst
  split at hst
  · exact xs_getI F h1 h2 h3 (xw_in h4) (xdec_ok h5) hst.1 (hK _ _ _ _ _ _ _ _ hst.2)
  · exact hst.elim
theorem xi_43 (F : XFx p s m meth c args Rm cc own nL ini law sc mc ms A sV) {rt : Option FieldType} {d0 : Nat} {cl : XC} {nx : XN} {Q : XQ} (hfr : d0 + 1 ≤ Rm.frames) (hlo : 40 * (d0 + 1) ≤ Rm.locals)
    (hcl : ∀ (k : Nat) (as : XV) (S : XS) (I : XI) (J : XJ) (r : XR) (Q : XQ), cl k as S I J r Q → XMt l d0 dC dI sV k as S I J r Q)
    (hnx : ∀ (pc : Nat) (L st : XV) (S : XS) (I : XI) (J : XJ) (r : XR) (cu su : Nat), nx pc L st S I J r cu su → XW p l e9 Rm s m args below meth c dC dI A a0 n0 sV nL mc ms Zf pc L st S I J r cu su)
    (hret : ∀ (pc : Nat) (L : XV) (cu su : Nat) (v : Option Value) (S : XS) (I : XI) (J : XJ) (r : XR), Q v S I J r → xretOk rt v → decode cc pc = .ok (xri v, 1) → XW p l e9 Rm s m args below meth c dC dI A a0 n0 sV nL mc ms Zf pc L v.toList S I J r cu su) {len a b d h n e : Nat} {z : Int32} {w : Int64} (hK : ∀ (L st : XV) (S : XS) (I : XI) (J : XJ) (r : XR) (cu su : Nat), K L st S I J r cu su → XW p l e9 Rm s m args below meth c dC dI A a0 n0 sV nL mc ms Zf (pc + len) L st S I J r cu su) (hok : ck43 own cc nL rt ini law pc len a b d h n e z w = true) (hst : xst sc cl nx Q mc ms K (43, len, a, b, d, h, n, e, z, w) L st S I J r cu su) : XW p l e9 Rm s m args below meth c dC dI A a0 n0 sV nL mc ms Zf pc L st S I J r cu su := by
  unfold ck43 at hok
  simp only [Bool.or_eq_true, Bool.and_eq_true, beq_iff_eq, decide_eq_true_eq, Bool.not_eq_true'] at hok
  obtain ⟨⟨⟨⟨⟨rfl, h1⟩, h2⟩, h3⟩, h4⟩, h5⟩ := hok
  simp only [xst] at hst
  split at hst
  · exact xs_getJ F h1 h2 h3 (xw_in h4) (xdec_ok h5) hst.1 (hK _ _ _ _ _ _ _ _ hst.2)
  · exact hst.elim
theorem xi_44 (F : XFx p s m meth c args Rm cc own nL ini law sc mc ms A sV) {rt : Option FieldType} {d0 : Nat} {cl : XC} {nx : XN} {Q : XQ} (hfr : d0 + 1 ≤ Rm.frames) (hlo : 40 * (d0 + 1) ≤ Rm.locals)
    (hcl : ∀ (k : Nat) (as : XV) (S : XS) (I : XI) (J : XJ) (r : XR) (Q : XQ), cl k as S I J r Q → XMt l d0 dC dI sV k as S I J r Q)
    (hnx : ∀ (pc : Nat) (L st : XV) (S : XS) (I : XI) (J : XJ) (r : XR) (cu su : Nat), nx pc L st S I J r cu su → XW p l e9 Rm s m args below meth c dC dI A a0 n0 sV nL mc ms Zf pc L st S I J r cu su)
    (hret : ∀ (pc : Nat) (L : XV) (cu su : Nat) (v : Option Value) (S : XS) (I : XI) (J : XJ) (r : XR), Q v S I J r → xretOk rt v → decode cc pc = .ok (xri v, 1) → XW p l e9 Rm s m args below meth c dC dI A a0 n0 sV nL mc ms Zf pc L v.toList S I J r cu su) {len a b d h n e : Nat} {z : Int32} {w : Int64} (hK : ∀ (L st : XV) (S : XS) (I : XI) (J : XJ) (r : XR) (cu su : Nat), K L st S I J r cu su → XW p l e9 Rm s m args below meth c dC dI A a0 n0 sV nL mc ms Zf (pc + len) L st S I J r cu su) (hok : ck44 own cc nL rt ini law pc len a b d h n e z w = true) (hst : xst sc cl nx Q mc ms K (44, len, a, b, d, h, n, e, z, w) L st S I J r cu su) : XW p l e9 Rm s m args below meth c dC dI A a0 n0 sV nL mc ms Zf pc L st S I J r cu su := by
  unfold ck44 at hok
  simp only [Bool.or_eq_true, Bool.and_eq_true, beq_iff_eq, decide_eq_true_eq, Bool.not_eq_true'] at hok
  obtain ⟨⟨⟨⟨⟨rfl, h1⟩, h2⟩, h3⟩, h4⟩, h5⟩ := hok
  simp only [xst] at hst
  split at hst
  · obtain ⟨g1, v, g2, hst⟩ := hst
    exact xs_getR F h1 h2 h3 (xw_in h4) (xdec_ok h5) g1 (by rw [g2]; exact hK _ _ _ _ _ _ _ _ hst)
  · exact hst.elim
theorem xi_45 (F : XFx p s m meth c args Rm cc own nL ini law sc mc ms A sV) {rt : Option FieldType} {d0 : Nat} {cl : XC} {nx : XN} {Q : XQ} (hfr : d0 + 1 ≤ Rm.frames) (hlo : 40 * (d0 + 1) ≤ Rm.locals)
    (hcl : ∀ (k : Nat) (as : XV) (S : XS) (I : XI) (J : XJ) (r : XR) (Q : XQ), cl k as S I J r Q → XMt l d0 dC dI sV k as S I J r Q)
    (hnx : ∀ (pc : Nat) (L st : XV) (S : XS) (I : XI) (J : XJ) (r : XR) (cu su : Nat), nx pc L st S I J r cu su → XW p l e9 Rm s m args below meth c dC dI A a0 n0 sV nL mc ms Zf pc L st S I J r cu su)
    (hret : ∀ (pc : Nat) (L : XV) (cu su : Nat) (v : Option Value) (S : XS) (I : XI) (J : XJ) (r : XR), Q v S I J r → xretOk rt v → decode cc pc = .ok (xri v, 1) → XW p l e9 Rm s m args below meth c dC dI A a0 n0 sV nL mc ms Zf pc L v.toList S I J r cu su) {len a b d h n e : Nat} {z : Int32} {w : Int64} (hK : ∀ (L st : XV) (S : XS) (I : XI) (J : XJ) (r : XR) (cu su : Nat), K L st S I J r cu su → XW p l e9 Rm s m args below meth c dC dI A a0 n0 sV nL mc ms Zf (pc + len) L st S I J r cu su) (hok : ck45 own cc nL rt ini law pc len a b d h n e z w = true) (hst : xst sc cl nx Q mc ms K (45, len, a, b, d, h, n, e, z, w) L st S I J r cu su) : XW p l e9 Rm s m args below meth c dC dI A a0 n0 sV nL mc ms Zf pc L st S I J r cu su := by
  unfold ck45 at hok
  simp only [Bool.or_eq_true, Bool.and_eq_true, beq_iff_eq, decide_eq_true_eq, Bool.not_eq_true'] at hok
  obtain ⟨⟨⟨⟨⟨⟨⟨rfl, h1⟩, h2⟩, h3⟩, h4⟩, h5⟩, h6⟩, h7⟩ := hok
  have h6 : ((xC b).2.1 d).2.2.2 = false ∨ (((xC b).2.1 d).2.2.2 = true ∧ ini = true ∧ ((xC b).2.1 d).1 = own) := by
    rcases h6 with h6 | h6
    · exact Or.inl h6
    · exact Or.inr ⟨h6.1.1, h6.1.2, h6.2⟩
  simp only [xst] at hst
  split at hst
  · exact xs_putI F h1 h2 h3 (Or.inl h7) (xw_in h4) h6 (xdec_ok h5) hst.1 (hK _ _ _ _ _ _ _ _ hst.2)
  · exact hst.elim
theorem xi_46 (F : XFx p s m meth c args Rm cc own nL ini law sc mc ms A sV) {rt : Option FieldType} {d0 : Nat} {cl : XC} {nx : XN} {Q : XQ} (hfr : d0 + 1 ≤ Rm.frames) (hlo : 40 * (d0 + 1) ≤ Rm.locals)
    (hcl : ∀ (k : Nat) (as : XV) (S : XS) (I : XI) (J : XJ) (r : XR) (Q : XQ), cl k as S I J r Q → XMt l d0 dC dI sV k as S I J r Q)
    (hnx : ∀ (pc : Nat) (L st : XV) (S : XS) (I : XI) (J : XJ) (r : XR) (cu su : Nat), nx pc L st S I J r cu su → XW p l e9 Rm s m args below meth c dC dI A a0 n0 sV nL mc ms Zf pc L st S I J r cu su)
    (hret : ∀ (pc : Nat) (L : XV) (cu su : Nat) (v : Option Value) (S : XS) (I : XI) (J : XJ) (r : XR), Q v S I J r → xretOk rt v → decode cc pc = .ok (xri v, 1) → XW p l e9 Rm s m args below meth c dC dI A a0 n0 sV nL mc ms Zf pc L v.toList S I J r cu su) {len a b d h n e : Nat} {z : Int32} {w : Int64} (hK : ∀ (L st : XV) (S : XS) (I : XI) (J : XJ) (r : XR) (cu su : Nat), K L st S I J r cu su → XW p l e9 Rm s m args below meth c dC dI A a0 n0 sV nL mc ms Zf (pc + len) L st S I J r cu su) (hok : ck46 own cc nL rt ini law pc len a b d h n e z w = true) (hst : xst sc cl nx Q mc ms K (46, len, a, b, d, h, n, e, z, w) L st S I J r cu su) : XW p l e9 Rm s m args below meth c dC dI A a0 n0 sV nL mc ms Zf pc L st S I J r cu su := by
  unfold ck46 at hok
  simp only [Bool.or_eq_true, Bool.and_eq_true, beq_iff_eq, decide_eq_true_eq, Bool.not_eq_true'] at hok
  obtain ⟨⟨⟨⟨⟨⟨rfl, h1⟩, h2⟩, h3⟩, h4⟩, h5⟩, h6⟩ := hok
  have h6 : ((xC b).2.1 d).2.2.2 = false ∨ (((xC b).2.1 d).2.2.2 = true ∧ ini = true ∧ ((xC b).2.1 d).1 = own) := by
    rcases h6 with h6 | h6
    · exact Or.inl h6
    · exact Or.inr ⟨h6.1.1, h6.1.2, h6.2⟩
  simp only [xst] at hst
  split at hst
  · exact xs_putJ F h1 h2 h3 (xw_in h4) h6 (xdec_ok h5) hst.1 (hK _ _ _ _ _ _ _ _ hst.2)
  · exact hst.elim
theorem xi_47 (F : XFx p s m meth c args Rm cc own nL ini law sc mc ms A sV) {rt : Option FieldType} {d0 : Nat} {cl : XC} {nx : XN} {Q : XQ} (hfr : d0 + 1 ≤ Rm.frames) (hlo : 40 * (d0 + 1) ≤ Rm.locals)
    (hcl : ∀ (k : Nat) (as : XV) (S : XS) (I : XI) (J : XJ) (r : XR) (Q : XQ), cl k as S I J r Q → XMt l d0 dC dI sV k as S I J r Q)
    (hnx : ∀ (pc : Nat) (L st : XV) (S : XS) (I : XI) (J : XJ) (r : XR) (cu su : Nat), nx pc L st S I J r cu su → XW p l e9 Rm s m args below meth c dC dI A a0 n0 sV nL mc ms Zf pc L st S I J r cu su)
    (hret : ∀ (pc : Nat) (L : XV) (cu su : Nat) (v : Option Value) (S : XS) (I : XI) (J : XJ) (r : XR), Q v S I J r → xretOk rt v → decode cc pc = .ok (xri v, 1) → XW p l e9 Rm s m args below meth c dC dI A a0 n0 sV nL mc ms Zf pc L v.toList S I J r cu su) {len a b d h n e : Nat} {z : Int32} {w : Int64} (hK : ∀ (L st : XV) (S : XS) (I : XI) (J : XJ) (r : XR) (cu su : Nat), K L st S I J r cu su → XW p l e9 Rm s m args below meth c dC dI A a0 n0 sV nL mc ms Zf (pc + len) L st S I J r cu su) (hok : ck47 own cc nL rt ini law pc len a b d h n e z w = true) (hst : xst sc cl nx Q mc ms K (47, len, a, b, d, h, n, e, z, w) L st S I J r cu su) : XW p l e9 Rm s m args below meth c dC dI A a0 n0 sV nL mc ms Zf pc L st S I J r cu su := by
  unfold ck47 at hok
  simp only [Bool.or_eq_true, Bool.and_eq_true, beq_iff_eq, decide_eq_true_eq, Bool.not_eq_true'] at hok
  obtain ⟨⟨⟨⟨⟨⟨rfl, h1⟩, h2⟩, h3⟩, h4⟩, h5⟩, h6⟩ := hok
  have h6 : ((xC b).2.1 d).2.2.2 = false ∨ (((xC b).2.1 d).2.2.2 = true ∧ ini = true ∧ ((xC b).2.1 d).1 = own) := by
    rcases h6 with h6 | h6
    · exact Or.inl h6
    · exact Or.inr ⟨h6.1.1, h6.1.2, h6.2⟩
  simp only [xst] at hst
  split at hst
  · exact xs_putR F h1 h2 h3 (xw_in h4) h6 (xdec_ok h5) hst.1 (hK _ _ _ _ _ _ _ _ hst.2)
  · exact hst.elim
theorem xi_48 (F : XFx p s m meth c args Rm cc own nL ini law sc mc ms A sV) {rt : Option FieldType} {d0 : Nat} {cl : XC} {nx : XN} {Q : XQ} (hfr : d0 + 1 ≤ Rm.frames) (hlo : 40 * (d0 + 1) ≤ Rm.locals)
    (hcl : ∀ (k : Nat) (as : XV) (S : XS) (I : XI) (J : XJ) (r : XR) (Q : XQ), cl k as S I J r Q → XMt l d0 dC dI sV k as S I J r Q)
    (hnx : ∀ (pc : Nat) (L st : XV) (S : XS) (I : XI) (J : XJ) (r : XR) (cu su : Nat), nx pc L st S I J r cu su → XW p l e9 Rm s m args below meth c dC dI A a0 n0 sV nL mc ms Zf pc L st S I J r cu su)
    (hret : ∀ (pc : Nat) (L : XV) (cu su : Nat) (v : Option Value) (S : XS) (I : XI) (J : XJ) (r : XR), Q v S I J r → xretOk rt v → decode cc pc = .ok (xri v, 1) → XW p l e9 Rm s m args below meth c dC dI A a0 n0 sV nL mc ms Zf pc L v.toList S I J r cu su) {len a b d h n e : Nat} {z : Int32} {w : Int64} (hK : ∀ (L st : XV) (S : XS) (I : XI) (J : XJ) (r : XR) (cu su : Nat), K L st S I J r cu su → XW p l e9 Rm s m args below meth c dC dI A a0 n0 sV nL mc ms Zf (pc + len) L st S I J r cu su) (hok : ck48 own cc nL rt ini law pc len a b d h n e z w = true) (hst : xst sc cl nx Q mc ms K (48, len, a, b, d, h, n, e, z, w) L st S I J r cu su) : XW p l e9 Rm s m args below meth c dC dI A a0 n0 sV nL mc ms Zf pc L st S I J r cu su := by
  unfold ck48 at hok
  simp only [Bool.or_eq_true, Bool.and_eq_true, beq_iff_eq, decide_eq_true_eq, Bool.not_eq_true'] at hok
  intro ls H locs ws tys hXH
  have hcu := hXH.2.2.2.2.1
  have hsu := hXH.2.2.2.2.2
  revert ls H locs ws tys
  intro ls H locs ws tys hXH
  obtain ⟨⟨⟨⟨rfl, hc⟩, hm⟩, hn⟩, hok⟩ := hok
  refine (?_ : XW p l e9 Rm s m args below meth c dC dI A a0 n0 sV nL mc ms Zf pc L st S I J r cu su) ls H locs ws tys hXH
  simp only [xst] at hst
  obtain ⟨g1, g2, g3, hst⟩ := hst
  have ecu : cu + mck b = cu := by rw [hm]; rfl
  have esu : su + msk b = su := by rw [hn]; rfl
  rcases hok with ((⟨⟨⟨⟨⟨⟨rfl, h1⟩, h2⟩, h3⟩, h4⟩, h5⟩, h6⟩ | ⟨⟨⟨⟨rfl, h1⟩, h2⟩, h5⟩, h6⟩) | ⟨⟨⟨⟨rfl, h1⟩, h2⟩, h5⟩, h6⟩) | ⟨⟨⟨⟨rfl, h1⟩, h2⟩, h5⟩, h6⟩
  · rcases g3 with g3 | ⟨q, As, g3, g4⟩
    · cases g3
    · exact xs_callV F hfr hlo (okCs_ok hc) h1 (xw_in h2) h3 h4 h5 g1 (xdec_ok h6) g2 (by rw [ecu]; exact hcu) (by rw [esu]; exact hsu) g3 g4 (hcl _ _ _ _ _ _ _ hst) (fun v S I J r hk => by rw [ecu, esu]; exact hK _ _ _ _ _ _ _ _ hk)
  · exact xs_callS F hfr hlo (okCs_ok hc) h1 (xw_in h2) h5 g1 (xdec_ok h6) g2 (by rw [ecu]; exact hcu) (by rw [esu]; exact hsu) (hcl _ _ _ _ _ _ _ hst) (fun v S I J r hk => by rw [ecu, esu]; exact hK _ _ _ _ _ _ _ _ hk)
  · rcases g3 with g3 | ⟨q, As, g3, g4⟩
    · cases g3
    · exact xs_callI F hfr hlo (okCs_ok hc) h1 (Or.inl (xw_in h2)) h5 g1 (xdec_ok h6) g2 (by rw [ecu]; exact hcu) (by rw [esu]; exact hsu) g3 (hcl _ _ _ _ _ _ _ hst) (fun v S I J r hk => by rw [ecu, esu]; exact hK _ _ _ _ _ _ _ _ hk)
  · rcases g3 with g3 | ⟨q, As, g3, g4⟩
    · cases g3
    · exact xs_callI F hfr hlo (okCs_ok hc) h1 (Or.inr h2) h5 g1 (xdec_ok h6) g2 (by rw [ecu]; exact hcu) (by rw [esu]; exact hsu) g3 (hcl _ _ _ _ _ _ _ hst) (fun v S I J r hk => by rw [ecu, esu]; exact hK _ _ _ _ _ _ _ _ hk)
theorem xi_49 (F : XFx p s m meth c args Rm cc own nL ini law sc mc ms A sV) {rt : Option FieldType} {d0 : Nat} {cl : XC} {nx : XN} {Q : XQ} (hfr : d0 + 1 ≤ Rm.frames) (hlo : 40 * (d0 + 1) ≤ Rm.locals)
    (hcl : ∀ (k : Nat) (as : XV) (S : XS) (I : XI) (J : XJ) (r : XR) (Q : XQ), cl k as S I J r Q → XMt l d0 dC dI sV k as S I J r Q)
    (hnx : ∀ (pc : Nat) (L st : XV) (S : XS) (I : XI) (J : XJ) (r : XR) (cu su : Nat), nx pc L st S I J r cu su → XW p l e9 Rm s m args below meth c dC dI A a0 n0 sV nL mc ms Zf pc L st S I J r cu su)
    (hret : ∀ (pc : Nat) (L : XV) (cu su : Nat) (v : Option Value) (S : XS) (I : XI) (J : XJ) (r : XR), Q v S I J r → xretOk rt v → decode cc pc = .ok (xri v, 1) → XW p l e9 Rm s m args below meth c dC dI A a0 n0 sV nL mc ms Zf pc L v.toList S I J r cu su) {len a b d h n e : Nat} {z : Int32} {w : Int64} (hK : ∀ (L st : XV) (S : XS) (I : XI) (J : XJ) (r : XR) (cu su : Nat), K L st S I J r cu su → XW p l e9 Rm s m args below meth c dC dI A a0 n0 sV nL mc ms Zf (pc + len) L st S I J r cu su) (hok : ck49 own cc nL rt ini law pc len a b d h n e z w = true) (hst : xst sc cl nx Q mc ms K (49, len, a, b, d, h, n, e, z, w) L st S I J r cu su) : XW p l e9 Rm s m args below meth c dC dI A a0 n0 sV nL mc ms Zf pc L st S I J r cu su := by
  unfold ck49 at hok
  simp only [Bool.or_eq_true, Bool.and_eq_true, beq_iff_eq, decide_eq_true_eq, Bool.not_eq_true'] at hok
  obtain ⟨⟨rfl, h2⟩, h3⟩ := hok
  simp only [xst] at hst
  split at hst
  · exact xs_objInit F (xw_in h2) xc_oi xc_oc (xdec_ok h3) hst.1 (hK _ _ _ _ _ _ _ _ hst.2)
  · exact hst.elim
theorem xi_50 (F : XFx p s m meth c args Rm cc own nL ini law sc mc ms A sV) {rt : Option FieldType} {d0 : Nat} {cl : XC} {nx : XN} {Q : XQ} (hfr : d0 + 1 ≤ Rm.frames) (hlo : 40 * (d0 + 1) ≤ Rm.locals)
    (hcl : ∀ (k : Nat) (as : XV) (S : XS) (I : XI) (J : XJ) (r : XR) (Q : XQ), cl k as S I J r Q → XMt l d0 dC dI sV k as S I J r Q)
    (hnx : ∀ (pc : Nat) (L st : XV) (S : XS) (I : XI) (J : XJ) (r : XR) (cu su : Nat), nx pc L st S I J r cu su → XW p l e9 Rm s m args below meth c dC dI A a0 n0 sV nL mc ms Zf pc L st S I J r cu su)
    (hret : ∀ (pc : Nat) (L : XV) (cu su : Nat) (v : Option Value) (S : XS) (I : XI) (J : XJ) (r : XR), Q v S I J r → xretOk rt v → decode cc pc = .ok (xri v, 1) → XW p l e9 Rm s m args below meth c dC dI A a0 n0 sV nL mc ms Zf pc L v.toList S I J r cu su) {len a b d h n e : Nat} {z : Int32} {w : Int64} (hK : ∀ (L st : XV) (S : XS) (I : XI) (J : XJ) (r : XR) (cu su : Nat), K L st S I J r cu su → XW p l e9 Rm s m args below meth c dC dI A a0 n0 sV nL mc ms Zf (pc + len) L st S I J r cu su) (hok : ck50 own cc nL rt ini law pc len a b d h n e z w = true) (hst : xst sc cl nx Q mc ms K (50, len, a, b, d, h, n, e, z, w) L st S I J r cu su) : XW p l e9 Rm s m args below meth c dC dI A a0 n0 sV nL mc ms Zf pc L st S I J r cu su := by
  unfold ck50 at hok
  simp only [Bool.or_eq_true, Bool.and_eq_true, beq_iff_eq, decide_eq_true_eq, Bool.not_eq_true'] at hok
  obtain ⟨⟨⟨rfl, h1⟩, h2⟩, h3⟩ := hok
  simp only [xst] at hst
  split at hst
  · obtain ⟨g0, n0', n1', g1, g2, g3, g4, g5, g6, g7, hst⟩ := hst
    exact xs_copy F h1 (xw_in h2) xc_n xc_s xc_i (xdec_ok h3) g0 g1 g2 g3 g4 g5 g6 g7 (hK _ _ _ _ _ _ _ _ hst)
  · exact hst.elim
theorem xi_51 (F : XFx p s m meth c args Rm cc own nL ini law sc mc ms A sV) {rt : Option FieldType} {d0 : Nat} {cl : XC} {nx : XN} {Q : XQ} (hfr : d0 + 1 ≤ Rm.frames) (hlo : 40 * (d0 + 1) ≤ Rm.locals)
    (hcl : ∀ (k : Nat) (as : XV) (S : XS) (I : XI) (J : XJ) (r : XR) (Q : XQ), cl k as S I J r Q → XMt l d0 dC dI sV k as S I J r Q)
    (hnx : ∀ (pc : Nat) (L st : XV) (S : XS) (I : XI) (J : XJ) (r : XR) (cu su : Nat), nx pc L st S I J r cu su → XW p l e9 Rm s m args below meth c dC dI A a0 n0 sV nL mc ms Zf pc L st S I J r cu su)
    (hret : ∀ (pc : Nat) (L : XV) (cu su : Nat) (v : Option Value) (S : XS) (I : XI) (J : XJ) (r : XR), Q v S I J r → xretOk rt v → decode cc pc = .ok (xri v, 1) → XW p l e9 Rm s m args below meth c dC dI A a0 n0 sV nL mc ms Zf pc L v.toList S I J r cu su) {len a b d h n e : Nat} {z : Int32} {w : Int64} (hK : ∀ (L st : XV) (S : XS) (I : XI) (J : XJ) (r : XR) (cu su : Nat), K L st S I J r cu su → XW p l e9 Rm s m args below meth c dC dI A a0 n0 sV nL mc ms Zf (pc + len) L st S I J r cu su) (hok : ck51 own cc nL rt ini law pc len a b d h n e z w = true) (hst : xst sc cl nx Q mc ms K (51, len, a, b, d, h, n, e, z, w) L st S I J r cu su) : XW p l e9 Rm s m args below meth c dC dI A a0 n0 sV nL mc ms Zf pc L st S I J r cu su := by
  unfold ck51 at hok
  simp only [Bool.or_eq_true, Bool.and_eq_true, beq_iff_eq, decide_eq_true_eq, Bool.not_eq_true'] at hok
  obtain ⟨⟨rfl, h2⟩, h3⟩ := hok
  simp only [xst] at hst
  split at hst
  · exact xs_strV F hst.1 (xw_in h2) (xdec_ok h3) (hK _ _ _ _ _ _ _ _ hst.2)
  · exact hst.elim
theorem xi_52 (F : XFx p s m meth c args Rm cc own nL ini law sc mc ms A sV) {rt : Option FieldType} {d0 : Nat} {cl : XC} {nx : XN} {Q : XQ} (hfr : d0 + 1 ≤ Rm.frames) (hlo : 40 * (d0 + 1) ≤ Rm.locals)
    (hcl : ∀ (k : Nat) (as : XV) (S : XS) (I : XI) (J : XJ) (r : XR) (Q : XQ), cl k as S I J r Q → XMt l d0 dC dI sV k as S I J r Q)
    (hnx : ∀ (pc : Nat) (L st : XV) (S : XS) (I : XI) (J : XJ) (r : XR) (cu su : Nat), nx pc L st S I J r cu su → XW p l e9 Rm s m args below meth c dC dI A a0 n0 sV nL mc ms Zf pc L st S I J r cu su)
    (hret : ∀ (pc : Nat) (L : XV) (cu su : Nat) (v : Option Value) (S : XS) (I : XI) (J : XJ) (r : XR), Q v S I J r → xretOk rt v → decode cc pc = .ok (xri v, 1) → XW p l e9 Rm s m args below meth c dC dI A a0 n0 sV nL mc ms Zf pc L v.toList S I J r cu su) {len a b d h n e : Nat} {z : Int32} {w : Int64} (hK : ∀ (L st : XV) (S : XS) (I : XI) (J : XJ) (r : XR) (cu su : Nat), K L st S I J r cu su → XW p l e9 Rm s m args below meth c dC dI A a0 n0 sV nL mc ms Zf (pc + len) L st S I J r cu su) (hok : ck52 own cc nL rt ini law pc len a b d h n e z w = true) (hst : xst sc cl nx Q mc ms K (52, len, a, b, d, h, n, e, z, w) L st S I J r cu su) : XW p l e9 Rm s m args below meth c dC dI A a0 n0 sV nL mc ms Zf pc L st S I J r cu su := by
  unfold ck52 at hok
  simp only [Bool.or_eq_true, Bool.and_eq_true, beq_iff_eq, decide_eq_true_eq, Bool.not_eq_true'] at hok
  obtain ⟨⟨rfl, h2⟩, h3⟩ := hok
  simp only [xst] at hst
  split at hst
  · exact xs_strC F hst.1 (xw_in h2) (xdec_ok h3) (hK _ _ _ _ _ _ _ _ hst.2)
  · exact hst.elim
theorem xi_53 (F : XFx p s m meth c args Rm cc own nL ini law sc mc ms A sV) {rt : Option FieldType} {d0 : Nat} {cl : XC} {nx : XN} {Q : XQ} (hfr : d0 + 1 ≤ Rm.frames) (hlo : 40 * (d0 + 1) ≤ Rm.locals)
    (hcl : ∀ (k : Nat) (as : XV) (S : XS) (I : XI) (J : XJ) (r : XR) (Q : XQ), cl k as S I J r Q → XMt l d0 dC dI sV k as S I J r Q)
    (hnx : ∀ (pc : Nat) (L st : XV) (S : XS) (I : XI) (J : XJ) (r : XR) (cu su : Nat), nx pc L st S I J r cu su → XW p l e9 Rm s m args below meth c dC dI A a0 n0 sV nL mc ms Zf pc L st S I J r cu su)
    (hret : ∀ (pc : Nat) (L : XV) (cu su : Nat) (v : Option Value) (S : XS) (I : XI) (J : XJ) (r : XR), Q v S I J r → xretOk rt v → decode cc pc = .ok (xri v, 1) → XW p l e9 Rm s m args below meth c dC dI A a0 n0 sV nL mc ms Zf pc L v.toList S I J r cu su) {len a b d h n e : Nat} {z : Int32} {w : Int64} (hK : ∀ (L st : XV) (S : XS) (I : XI) (J : XJ) (r : XR) (cu su : Nat), K L st S I J r cu su → XW p l e9 Rm s m args below meth c dC dI A a0 n0 sV nL mc ms Zf (pc + len) L st S I J r cu su) (hok : ck53 own cc nL rt ini law pc len a b d h n e z w = true) (hst : xst sc cl nx Q mc ms K (53, len, a, b, d, h, n, e, z, w) L st S I J r cu su) : XW p l e9 Rm s m args below meth c dC dI A a0 n0 sV nL mc ms Zf pc L st S I J r cu su := by
  unfold ck53 at hok
  simp only [Bool.or_eq_true, Bool.and_eq_true, beq_iff_eq, decide_eq_true_eq, Bool.not_eq_true'] at hok
  obtain ⟨⟨rfl, h2⟩, h3⟩ := hok
  simp only [xst] at hst
  split at hst
  · obtain ⟨rfl, hst⟩ := hst
    exact xs_slen F h2 (xdec_ok h3) (hK _ _ _ _ _ _ _ _ hst)
  · exact hst.elim
theorem xi_54 (F : XFx p s m meth c args Rm cc own nL ini law sc mc ms A sV) {rt : Option FieldType} {d0 : Nat} {cl : XC} {nx : XN} {Q : XQ} (hfr : d0 + 1 ≤ Rm.frames) (hlo : 40 * (d0 + 1) ≤ Rm.locals)
    (hcl : ∀ (k : Nat) (as : XV) (S : XS) (I : XI) (J : XJ) (r : XR) (Q : XQ), cl k as S I J r Q → XMt l d0 dC dI sV k as S I J r Q)
    (hnx : ∀ (pc : Nat) (L st : XV) (S : XS) (I : XI) (J : XJ) (r : XR) (cu su : Nat), nx pc L st S I J r cu su → XW p l e9 Rm s m args below meth c dC dI A a0 n0 sV nL mc ms Zf pc L st S I J r cu su)
    (hret : ∀ (pc : Nat) (L : XV) (cu su : Nat) (v : Option Value) (S : XS) (I : XI) (J : XJ) (r : XR), Q v S I J r → xretOk rt v → decode cc pc = .ok (xri v, 1) → XW p l e9 Rm s m args below meth c dC dI A a0 n0 sV nL mc ms Zf pc L v.toList S I J r cu su) {len a b d h n e : Nat} {z : Int32} {w : Int64} (hK : ∀ (L st : XV) (S : XS) (I : XI) (J : XJ) (r : XR) (cu su : Nat), K L st S I J r cu su → XW p l e9 Rm s m args below meth c dC dI A a0 n0 sV nL mc ms Zf (pc + len) L st S I J r cu su) (hok : ck54 own cc nL rt ini law pc len a b d h n e z w = true) (hst : xst sc cl nx Q mc ms K (54, len, a, b, d, h, n, e, z, w) L st S I J r cu su) : XW p l e9 Rm s m args below meth c dC dI A a0 n0 sV nL mc ms Zf pc L st S I J r cu su := by
  unfold ck54 at hok
  simp only [Bool.or_eq_true, Bool.and_eq_true, beq_iff_eq, decide_eq_true_eq, Bool.not_eq_true'] at hok
  obtain ⟨⟨rfl, h2⟩, h3⟩ := hok
  simp only [xst] at hst
  split at hst
  · obtain ⟨rfl, hj, hst⟩ := hst
    exact xs_sld F h2 hj (xdec_ok h3) (hK _ _ _ _ _ _ _ _ hst)
  · exact hst.elim
theorem xi_55 (F : XFx p s m meth c args Rm cc own nL ini law sc mc ms A sV) {rt : Option FieldType} {d0 : Nat} {cl : XC} {nx : XN} {Q : XQ} (hfr : d0 + 1 ≤ Rm.frames) (hlo : 40 * (d0 + 1) ≤ Rm.locals)
    (hcl : ∀ (k : Nat) (as : XV) (S : XS) (I : XI) (J : XJ) (r : XR) (Q : XQ), cl k as S I J r Q → XMt l d0 dC dI sV k as S I J r Q)
    (hnx : ∀ (pc : Nat) (L st : XV) (S : XS) (I : XI) (J : XJ) (r : XR) (cu su : Nat), nx pc L st S I J r cu su → XW p l e9 Rm s m args below meth c dC dI A a0 n0 sV nL mc ms Zf pc L st S I J r cu su)
    (hret : ∀ (pc : Nat) (L : XV) (cu su : Nat) (v : Option Value) (S : XS) (I : XI) (J : XJ) (r : XR), Q v S I J r → xretOk rt v → decode cc pc = .ok (xri v, 1) → XW p l e9 Rm s m args below meth c dC dI A a0 n0 sV nL mc ms Zf pc L v.toList S I J r cu su) {len a b d h n e : Nat} {z : Int32} {w : Int64} (hK : ∀ (L st : XV) (S : XS) (I : XI) (J : XJ) (r : XR) (cu su : Nat), K L st S I J r cu su → XW p l e9 Rm s m args below meth c dC dI A a0 n0 sV nL mc ms Zf (pc + len) L st S I J r cu su) (hok : ck55 own cc nL rt ini law pc len a b d h n e z w = true) (hst : xst sc cl nx Q mc ms K (55, len, a, b, d, h, n, e, z, w) L st S I J r cu su) : XW p l e9 Rm s m args below meth c dC dI A a0 n0 sV nL mc ms Zf pc L st S I J r cu su := by
  unfold ck55 at hok
  simp only [Bool.or_eq_true, Bool.and_eq_true, beq_iff_eq, decide_eq_true_eq, Bool.not_eq_true'] at hok
  obtain ⟨⟨rfl, hc⟩, hok⟩ := hok
  simp only [xst] at hst
  obtain ⟨hcu, hsu, g1, g2, g3, hst⟩ := hst
  rcases hok with ((⟨⟨⟨⟨⟨⟨rfl, h1⟩, h2⟩, h3⟩, h4⟩, h5⟩, h6⟩ | ⟨⟨⟨⟨rfl, h1⟩, h2⟩, h5⟩, h6⟩) | ⟨⟨⟨⟨rfl, h1⟩, h2⟩, h5⟩, h6⟩) | ⟨⟨⟨⟨rfl, h1⟩, h2⟩, h5⟩, h6⟩
  · rcases g3 with g3 | ⟨q, As, g3, g4⟩
    · cases g3
    · exact xs_callV F hfr hlo (okCs_ok hc) h1 (xw_in h2) h3 h4 h5 g1 (xdec_ok h6) g2 hcu hsu g3 g4 (hcl _ _ _ _ _ _ _ hst) (fun v S I J r hk => hK _ _ _ _ _ _ _ _ hk)
  · exact xs_callS F hfr hlo (okCs_ok hc) h1 (xw_in h2) h5 g1 (xdec_ok h6) g2 hcu hsu (hcl _ _ _ _ _ _ _ hst) (fun v S I J r hk => hK _ _ _ _ _ _ _ _ hk)
  · rcases g3 with g3 | ⟨q, As, g3, g4⟩
    · cases g3
    · exact xs_callI F hfr hlo (okCs_ok hc) h1 (Or.inl (xw_in h2)) h5 g1 (xdec_ok h6) g2 hcu hsu g3 (hcl _ _ _ _ _ _ _ hst) (fun v S I J r hk => hK _ _ _ _ _ _ _ _ hk)
  · rcases g3 with g3 | ⟨q, As, g3, g4⟩
    · cases g3
    · exact xs_callI F hfr hlo (okCs_ok hc) h1 (Or.inr h2) h5 g1 (xdec_ok h6) g2 hcu hsu g3 (hcl _ _ _ _ _ _ _ hst) (fun v S I J r hk => hK _ _ _ _ _ _ _ _ hk)
theorem xi_56 (F : XFx p s m meth c args Rm cc own nL ini law sc mc ms A sV) {rt : Option FieldType} {d0 : Nat} {cl : XC} {nx : XN} {Q : XQ} (hfr : d0 + 1 ≤ Rm.frames) (hlo : 40 * (d0 + 1) ≤ Rm.locals)
    (hcl : ∀ (k : Nat) (as : XV) (S : XS) (I : XI) (J : XJ) (r : XR) (Q : XQ), cl k as S I J r Q → XMt l d0 dC dI sV k as S I J r Q)
    (hnx : ∀ (pc : Nat) (L st : XV) (S : XS) (I : XI) (J : XJ) (r : XR) (cu su : Nat), nx pc L st S I J r cu su → XW p l e9 Rm s m args below meth c dC dI A a0 n0 sV nL mc ms Zf pc L st S I J r cu su)
    (hret : ∀ (pc : Nat) (L : XV) (cu su : Nat) (v : Option Value) (S : XS) (I : XI) (J : XJ) (r : XR), Q v S I J r → xretOk rt v → decode cc pc = .ok (xri v, 1) → XW p l e9 Rm s m args below meth c dC dI A a0 n0 sV nL mc ms Zf pc L v.toList S I J r cu su) {len a b d h n e : Nat} {z : Int32} {w : Int64} (hK : ∀ (L st : XV) (S : XS) (I : XI) (J : XJ) (r : XR) (cu su : Nat), K L st S I J r cu su → XW p l e9 Rm s m args below meth c dC dI A a0 n0 sV nL mc ms Zf (pc + len) L st S I J r cu su) (hok : ck56 own cc nL rt ini law pc len a b d h n e z w = true) (hst : xst sc cl nx Q mc ms K (56, len, a, b, d, h, n, e, z, w) L st S I J r cu su) : XW p l e9 Rm s m args below meth c dC dI A a0 n0 sV nL mc ms Zf pc L st S I J r cu su := by
  unfold ck56 at hok
  simp only [Bool.or_eq_true, Bool.and_eq_true, beq_iff_eq, decide_eq_true_eq, Bool.not_eq_true'] at hok
  obtain ⟨rfl, h3⟩ := hok
  simp only [xst] at hst
  split at hst
  · exact xs_strL F hst.1 hst.2.1 (xdec_ok h3) (hK _ _ _ _ _ _ _ _ hst.2.2)
  · exact hst.elim
theorem xi_57 (F : XFx p s m meth c args Rm cc own nL ini law sc mc ms A sV) {rt : Option FieldType} {d0 : Nat} {cl : XC} {nx : XN} {Q : XQ} (hfr : d0 + 1 ≤ Rm.frames) (hlo : 40 * (d0 + 1) ≤ Rm.locals)
    (hcl : ∀ (k : Nat) (as : XV) (S : XS) (I : XI) (J : XJ) (r : XR) (Q : XQ), cl k as S I J r Q → XMt l d0 dC dI sV k as S I J r Q)
    (hnx : ∀ (pc : Nat) (L st : XV) (S : XS) (I : XI) (J : XJ) (r : XR) (cu su : Nat), nx pc L st S I J r cu su → XW p l e9 Rm s m args below meth c dC dI A a0 n0 sV nL mc ms Zf pc L st S I J r cu su)
    (hret : ∀ (pc : Nat) (L : XV) (cu su : Nat) (v : Option Value) (S : XS) (I : XI) (J : XJ) (r : XR), Q v S I J r → xretOk rt v → decode cc pc = .ok (xri v, 1) → XW p l e9 Rm s m args below meth c dC dI A a0 n0 sV nL mc ms Zf pc L v.toList S I J r cu su) {len a b d h n e : Nat} {z : Int32} {w : Int64} (hK : ∀ (L st : XV) (S : XS) (I : XI) (J : XJ) (r : XR) (cu su : Nat), K L st S I J r cu su → XW p l e9 Rm s m args below meth c dC dI A a0 n0 sV nL mc ms Zf (pc + len) L st S I J r cu su) (hok : ck57 own cc nL rt ini law pc len a b d h n e z w = true) (hst : xst sc cl nx Q mc ms K (57, len, a, b, d, h, n, e, z, w) L st S I J r cu su) : XW p l e9 Rm s m args below meth c dC dI A a0 n0 sV nL mc ms Zf pc L st S I J r cu su := by
  unfold ck57 at hok
  simp only [Bool.or_eq_true, Bool.and_eq_true, beq_iff_eq, decide_eq_true_eq, Bool.not_eq_true'] at hok
  obtain ⟨rfl, h3⟩ := hok
  simp only [xst] at hst
  split at hst
  · exact xs_strB F hst.1 hst.2.1 hst.2.2.1 (xdec_ok h3) (hK _ _ _ _ _ _ _ _ hst.2.2.2)
  · exact hst.elim
theorem xi_58 (F : XFx p s m meth c args Rm cc own nL ini law sc mc ms A sV) {rt : Option FieldType} {d0 : Nat} {cl : XC} {nx : XN} {Q : XQ} (hfr : d0 + 1 ≤ Rm.frames) (hlo : 40 * (d0 + 1) ≤ Rm.locals)
    (hcl : ∀ (k : Nat) (as : XV) (S : XS) (I : XI) (J : XJ) (r : XR) (Q : XQ), cl k as S I J r Q → XMt l d0 dC dI sV k as S I J r Q)
    (hnx : ∀ (pc : Nat) (L st : XV) (S : XS) (I : XI) (J : XJ) (r : XR) (cu su : Nat), nx pc L st S I J r cu su → XW p l e9 Rm s m args below meth c dC dI A a0 n0 sV nL mc ms Zf pc L st S I J r cu su)
    (hret : ∀ (pc : Nat) (L : XV) (cu su : Nat) (v : Option Value) (S : XS) (I : XI) (J : XJ) (r : XR), Q v S I J r → xretOk rt v → decode cc pc = .ok (xri v, 1) → XW p l e9 Rm s m args below meth c dC dI A a0 n0 sV nL mc ms Zf pc L v.toList S I J r cu su) {len a b d h n e : Nat} {z : Int32} {w : Int64} (hK : ∀ (L st : XV) (S : XS) (I : XI) (J : XJ) (r : XR) (cu su : Nat), K L st S I J r cu su → XW p l e9 Rm s m args below meth c dC dI A a0 n0 sV nL mc ms Zf (pc + len) L st S I J r cu su) (hok : ck58 own cc nL rt ini law pc len a b d h n e z w = true) (hst : xst sc cl nx Q mc ms K (58, len, a, b, d, h, n, e, z, w) L st S I J r cu su) : XW p l e9 Rm s m args below meth c dC dI A a0 n0 sV nL mc ms Zf pc L st S I J r cu su := by
  unfold ck58 at hok
  simp only [Bool.or_eq_true, Bool.and_eq_true, beq_iff_eq, decide_eq_true_eq, Bool.not_eq_true'] at hok
  obtain ⟨⟨rfl, h2⟩, h3⟩ := hok
  exact xs_getS F (xw_in h2) (xdec_ok h3) (hK _ _ _ _ _ _ _ _ hst)
theorem xi_59 (F : XFx p s m meth c args Rm cc own nL ini law sc mc ms A sV) {rt : Option FieldType} {d0 : Nat} {cl : XC} {nx : XN} {Q : XQ} (hfr : d0 + 1 ≤ Rm.frames) (hlo : 40 * (d0 + 1) ≤ Rm.locals)
    (hcl : ∀ (k : Nat) (as : XV) (S : XS) (I : XI) (J : XJ) (r : XR) (Q : XQ), cl k as S I J r Q → XMt l d0 dC dI sV k as S I J r Q)
    (hnx : ∀ (pc : Nat) (L st : XV) (S : XS) (I : XI) (J : XJ) (r : XR) (cu su : Nat), nx pc L st S I J r cu su → XW p l e9 Rm s m args below meth c dC dI A a0 n0 sV nL mc ms Zf pc L st S I J r cu su)
    (hret : ∀ (pc : Nat) (L : XV) (cu su : Nat) (v : Option Value) (S : XS) (I : XI) (J : XJ) (r : XR), Q v S I J r → xretOk rt v → decode cc pc = .ok (xri v, 1) → XW p l e9 Rm s m args below meth c dC dI A a0 n0 sV nL mc ms Zf pc L v.toList S I J r cu su) {len a b d h n e : Nat} {z : Int32} {w : Int64} (hK : ∀ (L st : XV) (S : XS) (I : XI) (J : XJ) (r : XR) (cu su : Nat), K L st S I J r cu su → XW p l e9 Rm s m args below meth c dC dI A a0 n0 sV nL mc ms Zf (pc + len) L st S I J r cu su) (hok : ck59 own cc nL rt ini law pc len a b d h n e z w = true) (hst : xst sc cl nx Q mc ms K (59, len, a, b, d, h, n, e, z, w) L st S I J r cu su) : XW p l e9 Rm s m args below meth c dC dI A a0 n0 sV nL mc ms Zf pc L st S I J r cu su := by
  unfold ck59 at hok
  simp only [Bool.or_eq_true, Bool.and_eq_true, beq_iff_eq, decide_eq_true_eq, Bool.not_eq_true'] at hok
  obtain ⟨⟨rfl, h2⟩, h3⟩ := hok
  exact xs_getP F (xw_in h2) (xdec_ok h3) (hK _ _ _ _ _ _ _ _ hst)
theorem xi_60 (F : XFx p s m meth c args Rm cc own nL ini law sc mc ms A sV) {rt : Option FieldType} {d0 : Nat} {cl : XC} {nx : XN} {Q : XQ} (hfr : d0 + 1 ≤ Rm.frames) (hlo : 40 * (d0 + 1) ≤ Rm.locals)
    (hcl : ∀ (k : Nat) (as : XV) (S : XS) (I : XI) (J : XJ) (r : XR) (Q : XQ), cl k as S I J r Q → XMt l d0 dC dI sV k as S I J r Q)
    (hnx : ∀ (pc : Nat) (L st : XV) (S : XS) (I : XI) (J : XJ) (r : XR) (cu su : Nat), nx pc L st S I J r cu su → XW p l e9 Rm s m args below meth c dC dI A a0 n0 sV nL mc ms Zf pc L st S I J r cu su)
    (hret : ∀ (pc : Nat) (L : XV) (cu su : Nat) (v : Option Value) (S : XS) (I : XI) (J : XJ) (r : XR), Q v S I J r → xretOk rt v → decode cc pc = .ok (xri v, 1) → XW p l e9 Rm s m args below meth c dC dI A a0 n0 sV nL mc ms Zf pc L v.toList S I J r cu su) {len a b d h n e : Nat} {z : Int32} {w : Int64} (hK : ∀ (L st : XV) (S : XS) (I : XI) (J : XJ) (r : XR) (cu su : Nat), K L st S I J r cu su → XW p l e9 Rm s m args below meth c dC dI A a0 n0 sV nL mc ms Zf (pc + len) L st S I J r cu su) (hok : ck60 own cc nL rt ini law pc len a b d h n e z w = true) (hst : xst sc cl nx Q mc ms K (60, len, a, b, d, h, n, e, z, w) L st S I J r cu su) : XW p l e9 Rm s m args below meth c dC dI A a0 n0 sV nL mc ms Zf pc L st S I J r cu su := by
  unfold ck60 at hok
  simp only [Bool.or_eq_true, Bool.and_eq_true, beq_iff_eq, decide_eq_true_eq, Bool.not_eq_true'] at hok
  intro ls H locs ws tys hXH
  have hcu := hXH.2.2.2.2.1
  have hsu := hXH.2.2.2.2.2
  obtain ⟨⟨⟨⟨⟨⟨⟨⟨rfl, hc⟩, hm⟩, hn⟩, h1⟩, h2⟩, h4⟩, h5⟩, h6⟩ := hok
  refine (?_ : XW p l e9 Rm s m args below meth c dC dI A a0 n0 sV nL mc ms Zf pc L st S I J r cu su) ls H locs ws tys hXH
  simp only [xst] at hst
  obtain ⟨g1, g2, ⟨i, As, g3, g4⟩, hst⟩ := hst
  have ecu : cu + mck b = cu := by rw [hm]; rfl
  have esu : su + msk b = su := by rw [hn]; rfl
  exact xs_callX F hfr hlo (okCs_ok hc) h1 (xw_in h2) h4 h5 g1 (xdec_ok h6) g2 (by rw [ecu]; exact hcu) (by rw [esu]; exact hsu) g3 g4 (hcl _ _ _ _ _ _ _ hst) (fun v S I J r hk => by rw [ecu, esu]; exact hK _ _ _ _ _ _ _ _ hk)
theorem xi_61 (F : XFx p s m meth c args Rm cc own nL ini law sc mc ms A sV) {rt : Option FieldType} {d0 : Nat} {cl : XC} {nx : XN} {Q : XQ} (hfr : d0 + 1 ≤ Rm.frames) (hlo : 40 * (d0 + 1) ≤ Rm.locals)
    (hcl : ∀ (k : Nat) (as : XV) (S : XS) (I : XI) (J : XJ) (r : XR) (Q : XQ), cl k as S I J r Q → XMt l d0 dC dI sV k as S I J r Q)
    (hnx : ∀ (pc : Nat) (L st : XV) (S : XS) (I : XI) (J : XJ) (r : XR) (cu su : Nat), nx pc L st S I J r cu su → XW p l e9 Rm s m args below meth c dC dI A a0 n0 sV nL mc ms Zf pc L st S I J r cu su)
    (hret : ∀ (pc : Nat) (L : XV) (cu su : Nat) (v : Option Value) (S : XS) (I : XI) (J : XJ) (r : XR), Q v S I J r → xretOk rt v → decode cc pc = .ok (xri v, 1) → XW p l e9 Rm s m args below meth c dC dI A a0 n0 sV nL mc ms Zf pc L v.toList S I J r cu su) {len a b d h n e : Nat} {z : Int32} {w : Int64} (hK : ∀ (L st : XV) (S : XS) (I : XI) (J : XJ) (r : XR) (cu su : Nat), K L st S I J r cu su → XW p l e9 Rm s m args below meth c dC dI A a0 n0 sV nL mc ms Zf (pc + len) L st S I J r cu su) (hok : ck61 own cc nL rt ini law pc len a b d h n e z w = true) (hst : xst sc cl nx Q mc ms K (61, len, a, b, d, h, n, e, z, w) L st S I J r cu su) : XW p l e9 Rm s m args below meth c dC dI A a0 n0 sV nL mc ms Zf pc L st S I J r cu su := by
  unfold ck61 at hok
  simp only [Bool.or_eq_true, Bool.and_eq_true, beq_iff_eq, decide_eq_true_eq, Bool.not_eq_true'] at hok
  obtain ⟨⟨⟨⟨⟨⟨⟨rfl, h1⟩, h2⟩, h3⟩, h4⟩, h5⟩, h6⟩, h7⟩ := hok
  have h6 : ((xC b).2.1 d).2.2.2 = false ∨ (((xC b).2.1 d).2.2.2 = true ∧ ini = true ∧ ((xC b).2.1 d).1 = own) := by
    rcases h6 with h6 | h6
    · exact Or.inl h6
    · exact Or.inr ⟨h6.1.1, h6.1.2, h6.2⟩
  simp only [xst] at hst
  split at hst
  · exact xs_putI F h1 h2 h3 (Or.inr ⟨h7, hst.1⟩) (xw_in h4) h6 (xdec_ok h5) hst.2.1 (hK _ _ _ _ _ _ _ _ hst.2.2)
  · exact hst.elim
theorem xi_62 (F : XFx p s m meth c args Rm cc own nL ini law sc mc ms A sV) {rt : Option FieldType} {d0 : Nat} {cl : XC} {nx : XN} {Q : XQ} (hfr : d0 + 1 ≤ Rm.frames) (hlo : 40 * (d0 + 1) ≤ Rm.locals)
    (hcl : ∀ (k : Nat) (as : XV) (S : XS) (I : XI) (J : XJ) (r : XR) (Q : XQ), cl k as S I J r Q → XMt l d0 dC dI sV k as S I J r Q)
    (hnx : ∀ (pc : Nat) (L st : XV) (S : XS) (I : XI) (J : XJ) (r : XR) (cu su : Nat), nx pc L st S I J r cu su → XW p l e9 Rm s m args below meth c dC dI A a0 n0 sV nL mc ms Zf pc L st S I J r cu su)
    (hret : ∀ (pc : Nat) (L : XV) (cu su : Nat) (v : Option Value) (S : XS) (I : XI) (J : XJ) (r : XR), Q v S I J r → xretOk rt v → decode cc pc = .ok (xri v, 1) → XW p l e9 Rm s m args below meth c dC dI A a0 n0 sV nL mc ms Zf pc L v.toList S I J r cu su) {len a b d h n e : Nat} {z : Int32} {w : Int64} (hK : ∀ (L st : XV) (S : XS) (I : XI) (J : XJ) (r : XR) (cu su : Nat), K L st S I J r cu su → XW p l e9 Rm s m args below meth c dC dI A a0 n0 sV nL mc ms Zf (pc + len) L st S I J r cu su) (hok : ck62 own cc nL rt ini law pc len a b d h n e z w = true) (hst : xst sc cl nx Q mc ms K (62, len, a, b, d, h, n, e, z, w) L st S I J r cu su) : XW p l e9 Rm s m args below meth c dC dI A a0 n0 sV nL mc ms Zf pc L st S I J r cu su := by
  unfold ck62 at hok
  simp only [Bool.or_eq_true, Bool.and_eq_true, beq_iff_eq, decide_eq_true_eq, Bool.not_eq_true'] at hok
  obtain ⟨rfl, h3⟩ := hok
  simp only [xst] at hst
  split at hst
  · obtain ⟨t, n, v, g1, g2, g3, g4, hst⟩ := hst
    exact xs_aald F g1 g2 g3 (xdec_ok h3) (by rw [g4]; exact hK _ _ _ _ _ _ _ _ hst)
  · exact hst.elim
theorem xs_ins (F : XFx p s m meth c args Rm cc own nL ini law sc mc ms A sV) {rt : Option FieldType} {d0 : Nat} {cl : XC} {nx : XN} {Q : XQ} (hfr : d0 + 1 ≤ Rm.frames) (hlo : 40 * (d0 + 1) ≤ Rm.locals)
    (hcl : ∀ (k : Nat) (as : XV) (S : XS) (I : XI) (J : XJ) (r : XR) (Q : XQ), cl k as S I J r Q → XMt l d0 dC dI sV k as S I J r Q)
    (hnx : ∀ (pc : Nat) (L st : XV) (S : XS) (I : XI) (J : XJ) (r : XR) (cu su : Nat), nx pc L st S I J r cu su → XW p l e9 Rm s m args below meth c dC dI A a0 n0 sV nL mc ms Zf pc L st S I J r cu su)
    (hret : ∀ (pc : Nat) (L : XV) (cu su : Nat) (v : Option Value) (S : XS) (I : XI) (J : XJ) (r : XR), Q v S I J r → xretOk rt v → decode cc pc = .ok (xri v, 1) → XW p l e9 Rm s m args below meth c dC dI A a0 n0 sV nL mc ms Zf pc L v.toList S I J r cu su) {i : XO} (hK : ∀ (L st : XV) (S : XS) (I : XI) (J : XJ) (r : XR) (cu su : Nat), K L st S I J r cu su → XW p l e9 Rm s m args below meth c dC dI A a0 n0 sV nL mc ms Zf (pc + i.2.1) L st S I J r cu su) (hok : xins own cc nL rt ini law pc i = true) (hst : xst sc cl nx Q mc ms K i L st S I J r cu su) : XW p l e9 Rm s m args below meth c dC dI A a0 n0 sV nL mc ms Zf pc L st S I J r cu su := by
  obtain ⟨op, len, a, b, d, h, n, e, z, w⟩ := i
  by_cases e0 : op = 0
  · subst e0
    exact xi_0 F hfr hlo hcl hnx hret hK hok hst
  by_cases e1 : op = 1
  · subst e1
    exact xi_1 F hfr hlo hcl hnx hret hK hok hst
  by_cases e2 : op = 2
  · subst e2
    exact xi_2 F hfr hlo hcl hnx hret hK hok hst
  by_cases e3 : op = 3
  · subst e3
    exact xi_3 F hfr hlo hcl hnx hret hK hok hst
  by_cases e4 : op = 4
  · subst e4
    exact xi_4 F hfr hlo hcl hnx hret hK hok hst
  by_cases e5 : op = 5
  · subst e5
    exact xi_5 F hfr hlo hcl hnx hret hK hok hst
  by_cases e6 : op = 6
  · subst e6
    exact xi_6 F hfr hlo hcl hnx hret hK hok hst
  by_cases e7 : op = 7
  · subst e7
    exact xi_7 F hfr hlo hcl hnx hret hK hok hst
  by_cases e8 : op = 8
  · subst e8
    exact xi_8 F hfr hlo hcl hnx hret hK hok hst
  by_cases e9 : op = 9
  · subst e9
    exact xi_9 F hfr hlo hcl hnx hret hK hok hst
  by_cases e10 : op = 10
  · subst e10
    exact xi_10 F hfr hlo hcl hnx hret hK hok hst
  by_cases e11 : op = 11
  · subst e11
    exact xi_11 F hfr hlo hcl hnx hret hK hok hst
  by_cases e12 : op = 12
  · subst e12
    exact xi_12 F hfr hlo hcl hnx hret hK hok hst
  by_cases e13 : op = 13
  · subst e13
    exact xi_13 F hfr hlo hcl hnx hret hK hok hst
  by_cases e14 : op = 14
  · subst e14
    exact xi_14 F hfr hlo hcl hnx hret hK hok hst
  by_cases e15 : op = 15
  · subst e15
    exact xi_15 F hfr hlo hcl hnx hret hK hok hst
  by_cases e16 : op = 16
  · subst e16
    exact xi_16 F hfr hlo hcl hnx hret hK hok hst
  by_cases e17 : op = 17
  · subst e17
    exact xi_17 F hfr hlo hcl hnx hret hK hok hst
  by_cases e18 : op = 18
  · subst e18
    exact xi_18 F hfr hlo hcl hnx hret hK hok hst
  by_cases e19 : op = 19
  · subst e19
    exact xi_19 F hfr hlo hcl hnx hret hK hok hst
  by_cases e20 : op = 20
  · subst e20
    exact xi_20 F hfr hlo hcl hnx hret hK hok hst
  by_cases e21 : op = 21
  · subst e21
    exact xi_21 F hfr hlo hcl hnx hret hK hok hst
  by_cases e22 : op = 22
  · subst e22
    exact xi_22 F hfr hlo hcl hnx hret hK hok hst
  by_cases e23 : op = 23
  · subst e23
    exact xi_23 F hfr hlo hcl hnx hret hK hok hst
  by_cases e24 : op = 24
  · subst e24
    exact xi_24 F hfr hlo hcl hnx hret hK hok hst
  by_cases e25 : op = 25
  · subst e25
    exact xi_25 F hfr hlo hcl hnx hret hK hok hst
  by_cases e26 : op = 26
  · subst e26
    exact xi_26 F hfr hlo hcl hnx hret hK hok hst
  by_cases e27 : op = 27
  · subst e27
    exact xi_27 F hfr hlo hcl hnx hret hK hok hst
  by_cases e28 : op = 28
  · subst e28
    exact xi_28 F hfr hlo hcl hnx hret hK hok hst
  by_cases e29 : op = 29
  · subst e29
    exact xi_29 F hfr hlo hcl hnx hret hK hok hst
  by_cases e30 : op = 30
  · subst e30
    exact xi_30 F hfr hlo hcl hnx hret hK hok hst
  by_cases e31 : op = 31
  · subst e31
    exact xi_31 F hfr hlo hcl hnx hret hK hok hst
  by_cases e32 : op = 32
  · subst e32
    exact xi_32 F hfr hlo hcl hnx hret hK hok hst
  by_cases e33 : op = 33
  · subst e33
    exact xi_33 F hfr hlo hcl hnx hret hK hok hst
  by_cases e34 : op = 34
  · subst e34
    exact xi_34 F hfr hlo hcl hnx hret hK hok hst
  by_cases e35 : op = 35
  · subst e35
    exact xi_35 F hfr hlo hcl hnx hret hK hok hst
  by_cases e36 : op = 36
  · subst e36
    exact xi_36 F hfr hlo hcl hnx hret hK hok hst
  by_cases e37 : op = 37
  · subst e37
    exact xi_37 F hfr hlo hcl hnx hret hK hok hst
  by_cases e38 : op = 38
  · subst e38
    exact xi_38 F hfr hlo hcl hnx hret hK hok hst
  by_cases e39 : op = 39
  · subst e39
    exact xi_39 F hfr hlo hcl hnx hret hK hok hst
  by_cases e40 : op = 40
  · subst e40
    exact xi_40 F hfr hlo hcl hnx hret hK hok hst
  by_cases e42 : op = 42
  · subst e42
    exact xi_42 F hfr hlo hcl hnx hret hK hok hst
  by_cases e43 : op = 43
  · subst e43
    exact xi_43 F hfr hlo hcl hnx hret hK hok hst
  by_cases e44 : op = 44
  · subst e44
    exact xi_44 F hfr hlo hcl hnx hret hK hok hst
  by_cases e45 : op = 45
  · subst e45
    exact xi_45 F hfr hlo hcl hnx hret hK hok hst
  by_cases e46 : op = 46
  · subst e46
    exact xi_46 F hfr hlo hcl hnx hret hK hok hst
  by_cases e47 : op = 47
  · subst e47
    exact xi_47 F hfr hlo hcl hnx hret hK hok hst
  by_cases e48 : op = 48
  · subst e48
    exact xi_48 F hfr hlo hcl hnx hret hK hok hst
  by_cases e49 : op = 49
  · subst e49
    exact xi_49 F hfr hlo hcl hnx hret hK hok hst
  by_cases e50 : op = 50
  · subst e50
    exact xi_50 F hfr hlo hcl hnx hret hK hok hst
  by_cases e51 : op = 51
  · subst e51
    exact xi_51 F hfr hlo hcl hnx hret hK hok hst
  by_cases e52 : op = 52
  · subst e52
    exact xi_52 F hfr hlo hcl hnx hret hK hok hst
  by_cases e53 : op = 53
  · subst e53
    exact xi_53 F hfr hlo hcl hnx hret hK hok hst
  by_cases e54 : op = 54
  · subst e54
    exact xi_54 F hfr hlo hcl hnx hret hK hok hst
  by_cases e55 : op = 55
  · subst e55
    exact xi_55 F hfr hlo hcl hnx hret hK hok hst
  by_cases e56 : op = 56
  · subst e56
    exact xi_56 F hfr hlo hcl hnx hret hK hok hst
  by_cases e57 : op = 57
  · subst e57
    exact xi_57 F hfr hlo hcl hnx hret hK hok hst
  by_cases e58 : op = 58
  · subst e58
    exact xi_58 F hfr hlo hcl hnx hret hK hok hst
  by_cases e59 : op = 59
  · subst e59
    exact xi_59 F hfr hlo hcl hnx hret hK hok hst
  by_cases e60 : op = 60
  · subst e60
    exact xi_60 F hfr hlo hcl hnx hret hK hok hst
  by_cases e61 : op = 61
  · subst e61
    exact xi_61 F hfr hlo hcl hnx hret hK hok hst
  by_cases e62 : op = 62
  · subst e62
    exact xi_62 F hfr hlo hcl hnx hret hK hok hst
  exfalso
  unfold xins at hok
  simp only at hok
  first | cases hok | (split at hok <;> first | (simp_all; done) | cases hok)
theorem xs_blk (F : XFx p s m meth c args Rm cc own nL ini law sc mc ms A sV) {rt : Option FieldType} {d0 : Nat} {cl : XC} {nx : XN} {Q : XQ} (hfr : d0 + 1 ≤ Rm.frames) (hlo : 40 * (d0 + 1) ≤ Rm.locals)
    (hcl : ∀ (k : Nat) (as : XV) (S : XS) (I : XI) (J : XJ) (r : XR) (Q : XQ), cl k as S I J r Q → XMt l d0 dC dI sV k as S I J r Q)
    (hnx : ∀ (pc : Nat) (L st : XV) (S : XS) (I : XI) (J : XJ) (r : XR) (cu su : Nat), nx pc L st S I J r cu su → XW p l e9 Rm s m args below meth c dC dI A a0 n0 sV nL mc ms Zf pc L st S I J r cu su)
    (hret : ∀ (pc : Nat) (L : XV) (cu su : Nat) (v : Option Value) (S : XS) (I : XI) (J : XJ) (r : XR), Q v S I J r → xretOk rt v → decode cc pc = .ok (xri v, 1) → XW p l e9 Rm s m args below meth c dC dI A a0 n0 sV nL mc ms Zf pc L v.toList S I J r cu su) : ∀ (is : List XO) (pc : Nat) (L st : XV) (S : XS) (I : XI) (J : XJ) (r : XR) (cu su : Nat), xblkOk own cc nL rt ini law pc is = true → xwp sc cl nx Q mc ms is L st S I J r cu su → XW p l e9 Rm s m args below meth c dC dI A a0 n0 sV nL mc ms Zf pc L st S I J r cu su
  | [], _, _, _, _, _, _, _, _, _, _, h => h.elim
  | i :: is, pc, L, st, S, I, J, r, cu, su, hok, hst => by
    have hok := Bool.and_eq_true_iff.mp hok
    exact xs_ins F hfr hlo hcl hnx hret (fun L st S I J r cu su h => xs_blk F hfr hlo hcl hnx hret is _ L st S I J r cu su hok.2 h) hok.1 hst
end XOps
