/-- the least predicate that its own blocks ask -/
def xrun (sc : Nat × (Nat → Int32)) (cl : XC) (Q : XQ) (k : Nat) : XN := fun pc L st S I J r cu su =>
  ∀ P : XN, (∀ pc L st S I J r cu su, xwp sc cl P Q (mck k) (msk k) (xblk k pc) L st S I J r cu su → P pc L st S I J r cu su) → P pc L st S I J r cu su
def xcall : Nat → XC
  | 0 => fun _ _ _ _ _ _ _ => False
  | d + 1 => fun k as S I J r Q => k < 351 ∧ xsz as ≤ mlk k ∧ xrun (0, fun _ => 0) (xcall d) Q k 0 (xent as (mlk k)) [] S I J r 0 0
/-! monotony -/
theorem xsw_mono {nx nx' : XN} (h : ∀ pc L st S I J r cu su, nx pc L st S I J r cu su → nx' pc L st S I J r cu su) {L st : XV} {S : XS} {I : XI} {J : XJ} {r : XR} {cu su : Nat} {x : Int32} {d : Nat} : ∀ {cs : List (Int32 × Nat)}, xsw nx L st S I J r cu su x d cs → xsw nx' L st S I J r cu su x d cs
  | [], q => h _ _ _ _ _ _ _ _ _ q
  | (_, _) :: _, q => ⟨fun e => h _ _ _ _ _ _ _ _ _ (q.1 e), fun e => xsw_mono h (q.2 e)⟩
set_option maxHeartbeats 4000000 in
theorem xst_mono {sc : Nat × (Nat → Int32)} {cl cl' : XC} {nx nx' : XN} {Q Q' : XQ} {mc ms : Nat} {K K' : XK} (hc : ∀ k as S I J r (q q' : XQ), (∀ v S I J r, q v S I J r → q' v S I J r) → cl k as S I J r q → cl' k as S I J r q') (hn : ∀ pc L st S I J r cu su, nx pc L st S I J r cu su → nx' pc L st S I J r cu su) (hq : ∀ v S I J r, Q v S I J r → Q' v S I J r) (hk : ∀ L st S I J r cu su, K L st S I J r cu su → K' L st S I J r cu su) :
    ∀ (i : XO) (L st : XV) (S : XS) (I : XI) (J : XJ) (r : XR) (cu su : Nat), xst sc cl nx Q mc ms K i L st S I J r cu su → xst sc cl' nx' Q' mc ms K' i L st S I J r cu su := by
  rintro ⟨op, l, a, b, d, h, n, e, z, w⟩ L st S I J r cu su hs
  unfold xst at hs ⊢
  dsimp only at hs ⊢
  split at hs
  all_goals try exact hs.elim
  all_goals first
    | exact hk _ _ _ _ _ _ _ _ hs
    | exact hn _ _ _ _ _ _ _ _ _ hs
    | exact ⟨hs.1, hs.2.1, hk _ _ _ _ _ _ _ _ hs.2.2⟩
    | exact ⟨hs.1, hs.2.1, hs.2.2.1, hc _ _ _ _ _ _ _ _ (fun v S I J r q => hk _ _ _ _ _ _ _ _ q) hs.2.2.2⟩
    | exact ⟨hs.1, hs.2.1, hs.2.2.1, hs.2.2.2.1, hs.2.2.2.2.1, hc _ _ _ _ _ _ _ _ (fun v S I J r q => hk _ _ _ _ _ _ _ _ q) hs.2.2.2.2.2⟩
    | (split at hs
       all_goals try exact hs.elim
       all_goals first
         | exact hk _ _ _ _ _ _ _ _ hs
         | exact hn _ _ _ _ _ _ _ _ _ hs
         | exact hq _ _ _ _ _ hs
         | exact ⟨hs.1, hk _ _ _ _ _ _ _ _ hs.2⟩
         | exact ⟨hs.1, hs.2.1, hk _ _ _ _ _ _ _ _ hs.2.2⟩
         | exact ⟨hs.1, hs.2.1, hs.2.2.1, hs.2.2.2.1, hk _ _ _ _ _ _ _ _ hs.2.2.2.2⟩
         | exact ⟨hs.1, hs.2.1, hs.2.2.1, hs.2.2.2.1, hs.2.2.2.2.1, hk _ _ _ _ _ _ _ _ hs.2.2.2.2.2⟩
         | exact ⟨fun q => hn _ _ _ _ _ _ _ _ _ (hs.1 q), fun q => hk _ _ _ _ _ _ _ _ (hs.2 q)⟩
         | exact ⟨hs.1, hq _ _ _ _ _ hs.2⟩
         | exact xsw_mono hn hs
         | (obtain ⟨h1, x1, h2, h3⟩ := hs; exact ⟨h1, x1, h2, hk _ _ _ _ _ _ _ _ h3⟩)
         | (obtain ⟨x0, x1, x2, h1, h2, h3, h4, h5⟩ := hs; exact ⟨x0, x1, x2, h1, h2, h3, h4, hk _ _ _ _ _ _ _ _ h5⟩)
         | (obtain ⟨x1, h1, h2, h3⟩ := hs; exact ⟨x1, h1, h2, hk _ _ _ _ _ _ _ _ h3⟩)
         | (obtain ⟨x1, h1, h2, h3, h4⟩ := hs; exact ⟨x1, h1, h2, h3, hk _ _ _ _ _ _ _ _ h4⟩)
         | (obtain ⟨x1, x2, h1, h2, h3⟩ := hs; exact ⟨x1, x2, h1, h2, hk _ _ _ _ _ _ _ _ h3⟩)
         | (obtain ⟨x1, x2, h1, h2, h3, h4⟩ := hs; exact ⟨x1, x2, h1, h2, h3, hk _ _ _ _ _ _ _ _ h4⟩)
         | (obtain ⟨x0, x1, x2, h1, h2, h3, h4, h5, h6, h7, h8⟩ := hs; exact ⟨x0, x1, x2, h1, h2, h3, h4, h5, h6, h7, hk _ _ _ _ _ _ _ _ h8⟩))
theorem xwp_mono {sc : Nat × (Nat → Int32)} {cl cl' : XC} {nx nx' : XN} {Q Q' : XQ} {mc ms : Nat} (hc : ∀ k as S I J r (q q' : XQ), (∀ v S I J r, q v S I J r → q' v S I J r) → cl k as S I J r q → cl' k as S I J r q') (hn : ∀ pc L st S I J r cu su, nx pc L st S I J r cu su → nx' pc L st S I J r cu su) (hq : ∀ v S I J r, Q v S I J r → Q' v S I J r) :
    ∀ (is : List XO) (L st : XV) (S : XS) (I : XI) (J : XJ) (r : XR) (cu su : Nat), xwp sc cl nx Q mc ms is L st S I J r cu su → xwp sc cl' nx' Q' mc ms is L st S I J r cu su
  | [], _, _, _, _, _, _, _, _, h => h
  | i :: is, L, st, S, I, J, r, cu, su, h => xst_mono hc hn hq (fun L st S I J r cu su h => xwp_mono hc hn hq is L st S I J r cu su h) i L st S I J r cu su h
theorem xrun_mono {sc : Nat × (Nat → Int32)} {cl cl' : XC} {Q Q' : XQ} {k : Nat} (hc : ∀ k as S I J r (q q' : XQ), (∀ v S I J r, q v S I J r → q' v S I J r) → cl k as S I J r q → cl' k as S I J r q') (hq : ∀ v S I J r, Q v S I J r → Q' v S I J r) {pc : Nat} {L st : XV} {S : XS} {I : XI} {J : XJ} {r : XR} {cu su : Nat} (h : xrun sc cl Q k pc L st S I J r cu su) : xrun sc cl' Q' k pc L st S I J r cu su :=
  fun P hP => h P fun pc L st S I J r cu su hw => hP _ _ _ _ _ _ _ _ _ (xwp_mono hc (fun _ _ _ _ _ _ _ _ _ q => q) hq _ _ _ _ _ _ _ _ _ hw)
theorem xcall_imp : ∀ {d d' : Nat}, d ≤ d' → ∀ {k : Nat} {as : XV} {S : XS} {I : XI} {J : XJ} {r : XR} {Q Q' : XQ}, xcall d k as S I J r Q → (∀ v S I J r, Q v S I J r → Q' v S I J r) → xcall d' k as S I J r Q'
  | 0, _, _, _, _, _, _, _, _, _, _, h, _ => h.elim
  | d + 1, 0, hd, _, _, _, _, _, _, _, _, _, _ => by omega
  | d + 1, d' + 1, hd, _, _, _, _, _, _, _, _, h, hq => ⟨h.1, h.2.1, xrun_mono (cl := xcall d) (cl' := xcall d') (fun _ _ _ _ _ _ _ _ hqq hh => xcall_imp (Nat.le_of_succ_le_succ hd) hh hqq) hq h.2.2⟩
/-- one block -/
theorem xrun_blk {sc : Nat × (Nat → Int32)} {d : Nat} {Q : XQ} {k pc : Nat} {L st : XV} {S : XS} {I : XI} {J : XJ} {r : XR} {cu su : Nat} (h : xwp sc (xcall d) (xrun sc (xcall d) Q k) Q (mck k) (msk k) (xblk k pc) L st S I J r cu su) : xrun sc (xcall d) Q k pc L st S I J r cu su :=
  fun P hP => hP _ _ _ _ _ _ _ _ _ (xwp_mono (cl := xcall d) (cl' := xcall d) (nx := xrun sc (xcall d) Q k) (fun _ _ _ _ _ _ _ _ hqq hh => xcall_imp (Nat.le_refl _) hh hqq) (fun _ _ _ _ _ _ _ _ _ q => q P hP) (fun _ _ _ _ _ q => q) _ _ _ _ _ _ _ _ _ h)
theorem Met.ofWF {l : Launch} {y : MethodName} {ws ws' : List Cond} {rm : Room} {Pc : Array Value → State → Prop} {Qc : Array Value → State → Outcome → State → Prop} {mc ms : Nat} {free : Addr → Prop} {cc : ByteArray} {maxL : Nat} {ret : Option FieldType}
    (hy : plainFor y = true) (hw : ws = Cond.code y cc maxL ret :: ws')
    (body : ∀ p e s m args below meth c s₁, BodyLoose p l y (headSpec ws rm) cc maxL ret e s m args below meth c s₁ → c.maxLocals = maxL → Pc args s →
      W p l e (headSpec ws rm).room s m args below meth c s.heap [] 0 0 (MQ below Qc args s mc ms free) (entryFrame m args maxL)) : Met l y ws rm Pc Qc mc ms free := by
  refine MetFree.of_bodySF (code := cc) (maxLocals := maxL) (ret := ret) hy ?_ ?_
  · intro args s m h hn
    obtain ⟨meth, c, h1, h2, h3, h4, h5, h6, -, -⟩ := Cond.code_spec hn (atoms_spec (ws := ws) h _ (by rw [hw]; exact List.mem_cons_self))
    exact ⟨meth, c, h1, h2, h3, h4, h5, h6⟩
  · intro p e s m args below meth c s₁ B hml hP _
    have hh0 : s₁.heap = s.heap := by rw [B.state]; rfl
    obtain ⟨t, a1, o, b1, b2, b3⟩ := body p e s m args below meth c s₁ B hml hP s₁ hh0 (Stand.of_body B)
    exact ⟨t, o, a1, b1, b2, ⟨b3.1, b3.2⟩⟩
theorem xfind_ok {p : Nat → List XO → Bool} {pc : Nat} (h0 : p pc [] = true) : ∀ {l : List (Nat × List XO)}, l.all (fun e => p e.1 e.2) = true → p pc (xfind pc l) = true
  | [], _ => h0
  | e :: es, h => by
    have h := Bool.and_eq_true_iff.mp h
    unfold xfind
    by_cases q : e.1 = pc
    · rw [if_pos q, ← q]; exact h.1
    · rw [if_neg q]; exact xfind_ok h0 h.2
theorem xpd_len : ∀ (as : XV), (xpd as).length ≤ xsz as
  | [] => Nat.le_refl _
  | v :: as => by
    have := xpd_len as
    cases v <;> simp [xpd, xsz, Value.category] <;> omega
theorem lg_len (ad : Nat → Nat) (sV : Nat → Value) (hs : ∀ i, (sV i).category = 1) : ∀ (as : XV), (lg_sl (as.map (xtr ad sV))).length = xsz as
  | [] => rfl
  | v :: as => by
    have ih := lg_len ad sV hs as
    have e : lg_sl ((v :: as).map (xtr ad sV)) = (if (xtr ad sV v).category = 2 then [Slot.val (xtr ad sV v), .second] else [.val (xtr ad sV v)]) ++ lg_sl (as.map (xtr ad sV)) := rfl
    rw [e, List.length_append, ih, xtr_cat hs]
    rcases lv_cat v with h | h <;> rw [h] <;> simp [xsz, h]
theorem xpd_args (ad : Nat → Nat) (sV : Nat → Value) (hs : ∀ i, (sV i).category = 1) : ∀ (as : XV) (i j : Nat) (v : Value), (xpd as)[j]? = some v → xmk v = false → (i + j, xtr ad sV v) ∈ lv_args i (as.map (xtr ad sV))
  | [], i, j, v, h, _ => by simp [xpd] at h
  | u :: as, i, j, v, h, hm => by
    have e : lv_args i ((u :: as).map (xtr ad sV)) = (i, xtr ad sV u) :: lv_args (if (xtr ad sV u).category = 2 then i + 2 else i + 1) (as.map (xtr ad sV)) := rfl
    rw [e, xtr_cat hs]
    have one : u.category = 1 → xpd (u :: as) = u :: xpd as → (i + j, xtr ad sV v) ∈ (i, xtr ad sV u) :: lv_args (if u.category = 2 then i + 2 else i + 1) (as.map (xtr ad sV)) := by
      intro hc hx
      rw [hx] at h
      cases j with
      | zero => simp at h; subst h; exact List.mem_cons_self
      | succ j =>
        have h' : (xpd as)[j]? = some v := by simpa using h
        rw [hc, if_neg (by decide)]
        have := xpd_args ad sV hs as (i + 1) j v h' hm
        rw [show i + 1 + j = i + (j + 1) by omega] at this
        exact List.mem_cons_of_mem _ this
    cases u with
    | long x =>
      have hx : xpd (.long x :: as) = .long x :: .float 0 :: xpd as := rfl
      rw [hx] at h
      match j, h with
      | 0, h => simp at h; subst h; exact List.mem_cons_self
      | 1, h => simp at h; subst h; cases hm
      | j + 2, h =>
        have h' : (xpd as)[j]? = some v := by simpa using h
        have := xpd_args ad sV hs as (i + 2) j v h' hm
        rw [show i + 2 + j = i + (j + 2) by omega] at this
        exact List.mem_cons_of_mem _ this
    | double x =>
      have hx : xpd (.double x :: as) = .double x :: .float 0 :: xpd as := rfl
      rw [hx] at h
      match j, h with
      | 0, h => simp at h; subst h; exact List.mem_cons_self
      | 1, h => simp at h; subst h; cases hm
      | j + 2, h =>
        have h' : (xpd as)[j]? = some v := by simpa using h
        have := xpd_args ad sV hs as (i + 2) j v h' hm
        rw [show i + 2 + j = i + (j + 2) by omega] at this
        exact List.mem_cons_of_mem _ this
    | _ => exact one rfl rfl
/-- the locals at the entry -/
theorem xent_ls {ad : Nat → Nat} {sV : Nat → Value} (hs : ∀ i, (sV i).category = 1) {as : XV} {n : Nat} (h : xsz as ≤ n) : XLs ad sV n ((lg_sl (as.map (xtr ad sV)) ++ List.replicate (n - (lg_sl (as.map (xtr ad sV))).length) Slot.unset).toArray) (xent as n) := by
  have hl := lv_entry (as.map (xtr ad sV)) (n := n) (by rw [lg_len ad sV hs]; exact h)
  refine ⟨hl.1, hl.2.1, fun i v hi hm => ?_⟩
  have h2 : (xpd as)[i]? = some v := by
    unfold xent at hi
    by_cases q : i < (xpd as).length
    · rwa [List.getElem?_append_left q] at hi
    · rw [List.getElem?_append_right (by omega), List.getElem?_replicate] at hi
      split at hi
      · cases hi; cases hm
      · cases hi
  have h3 := xpd_args ad sV hs as 0 i v h2 hm
  rw [Nat.zero_add] at h3
  exact hl.2.2 (i, xtr ad sV v) h3
theorem xent_ok {S : XS} {n : Nat} : ∀ {as : XV}, (∀ v ∈ as, xok S v) → ∀ v ∈ xent as n, xok S v := by
  have hp : ∀ (as : XV), (∀ v ∈ as, xok S v) → ∀ v ∈ xpd as, xok S v := by
    intro as
    induction as with
    | nil => intro _ v hv; simp [xpd] at hv
    | cons u as ih =>
      intro h v hv
      have h1 := h u List.mem_cons_self
      have h2 := ih (fun v hv => h v (List.mem_cons_of_mem _ hv))
      cases u <;> simp only [xpd, List.mem_cons] at hv
      case long x => rcases hv with rfl | rfl | hv; exact h1; trivial; exact h2 v hv
      case double x => rcases hv with rfl | rfl | hv; exact h1; trivial; exact h2 v hv
      all_goals (rcases hv with rfl | hv; exact h1; exact h2 v hv)
  intro as h v hv
  unfold xent at hv
  rcases List.mem_append.mp hv with hv | hv
  · exact hp as h v hv
  · rw [(List.mem_replicate.mp hv).2]; trivial
theorem xrun_no {sc : Nat × (Nat → Int32)} {cl : XC} {Q : XQ} {k pc : Nat} {L st : XV} {S : XS} {I : XI} {J : XJ} {r : XR} {cu su : Nat} (hk : xtl.getD k [] = []) (h : xrun sc cl Q k pc L st S I J r cu su) : False := by
  refine h (fun _ _ _ _ _ _ _ _ _ => False) (fun pc L st S I J r cu su hw => ?_)
  have e : xblk k pc = [] := by unfold xblk; rw [hk]; rfl
  rw [e] at hw
  exact hw
set_option maxHeartbeats 4000000 in
/-- what the abstract machine does, the machine does: a method's contract out of xcall -/
theorem xcall_ok (hM : ∀ k, k < 351 → okMs k = true → okM k = true) (hMb : ∀ k, k < 351 → okMs k = true → okMb k = true) (hno : ∀ k, k < 351 → okMs k = false → xtl.getD k [] = []) (l : Launch) (dC : Nat → ClassId) (dI : Nat → Nat → Nat) (sV : Nat → Value) : ∀ (d k : Nat) (as : XV) (S : XS) (I : XI) (J : XJ) (r : XR) (Q : XQ), xcall d k as S I J r Q → XMt l d dC dI sV k as S I J r Q
  | 0, _, _, _, _, _, _, _, h => h.elim
  | d + 1, k, as, S, I, J, r, Q, h => by
    obtain ⟨hk, hsz, hrun⟩ := h
    have hok : okMs k = true := by
      cases hok : okMs k with
      | true => rfl
      | false => exact (xrun_no (hno k hk hok) hrun).elim
    have hm := hM k hk hok
    have hmb := hMb k hk hok
    unfold okM at hm
    rw [Bool.and_eq_true] at hm
    have hml0 : mlk k = (xm k).2.2.1 := of_decide_eq_true hm.2
    intro ws tys sz
    refine Met.ofWF (cc := (xm k).2.1) (maxL := (xm k).2.2.1) (ret := (xm k).2.2.2) hm.1 rfl ?_
    intro p e s m args below meth c s₁ B hml hv
    obtain ⟨rfl, hsz0, hP, hK, hD0, hX, hStr, has⟩ := hv
    have hts0 := atoms_spec (ws := xwk k) B.pre
    have hlocks := B.notSynchronized
    subst hsz0
    have hD := hD0.self (sz := s.heap.size)
    have F : XFx p s m meth c (as.map (xtr (xadr ws) sV)).toArray (xroom (d + 1) k) (xm k).2.1 (xm k).1.cls (xm k).2.2.1 (decide ((xm k).1.name = "<init>")) false (0, fun _ => 0) (mck k) (msk k) (va_A ws s.heap.size) sV :=
      ⟨B.exec, B.bytes, hml, findClass_of_methodNamed B.named, fun w hw => hts0 w (List.mem_cons_of_mem _ hw), fun hi => (name_of_methodNamed B.named B.method).1.trans (of_decide_eq_true hi), fun q hq => Or.inr hq, hStr, fun h => Bool.noConfusion h, by show 1 ≤ d + 1; omega, by show 40 ≤ 40 * (d + 1); omega, Nat.le_refl _, Nat.le_refl _⟩
    have hS : va_S (va_A ws s.heap.size) s.heap s.heap [] := va_S.rf
    have hret : ∀ (pc : Nat) (L : XV) (cu su : Nat) (v : Option Value) (S' : XS) (I' : XI) (J' : XJ) (r' : XR), Q v S' I' J' r' → xretOk (xm k).2.2.2 v → decode (xm k).2.1 pc = .ok (xri v, 1) → XW p l e (xroom (d + 1) k) s m (as.map (xtr (xadr ws) sV)).toArray below meth c dC dI (va_A ws s.heap.size) (xadr ws) S.length sV (xm k).2.2.1 (mck k) (msk k) (MQ below (xQc (xm k).2.2.2 Q (xB1 dC dI (va_A ws s.heap.size) S.length (xadr ws)) (va_A ws s.heap.size)) (as.map (xtr (xadr ws) sV)).toArray s (mck k) (msk k) (va_A ws s.heap.size)) pc L v.toList S' I' J' r' cu su := by
      intro pc L cu su v S' I' J' r' hQ hro hdec ls H locs ws' tys' hXH
      obtain ⟨-, ⟨hK', hP', hD', hS', hX'⟩, -, -, hcu, hsu⟩ := hXH
      refine W.widen hcu hsu ?_
      have hr := B.returns
      have hB : ∀ t : State, t.heap = H → s.WarmedH t.vm → xB1 dC dI (va_A ws s.heap.size) S.length (xadr ws) (S', I', J', r', ws', tys') t := fun t ht hW => ⟨by rw [ht]; exact hP', va_K.moved hW.alike hK', hD', hX'⟩
      generalize hrt : (xm k).2.2.2 = rt at hro hr ⊢
      cases v with
      | none =>
        cases rt with
        | none => exact W.vret B.exec B.bytes hr (fun t ht hW => ⟨⟨(S', I', J', r', ws', tys'), rfl, hQ, hB t ht hW⟩, hS'.F ht⟩) hS'.2.2 hdec hlocks
        | some ty => cases ty <;> exact hro.elim
      | some v =>
        cases v with
        | long x =>
          cases rt with
          | none => exact hro.elim
          | some ty =>
            cases ty with
            | long => exact W.lret B.exec B.bytes hr (fun t ht hW => ⟨⟨x, (S', I', J', r', ws', tys'), rfl, hQ, hB t ht hW⟩, hS'.F ht⟩) hS'.2.2 hdec hlocks
            | _ => exact hro.elim
        | int x =>
          cases rt with
          | none => exact hro.elim
          | some ty =>
            by_cases hty : ty = .long
            · subst hty; exact hro.elim
            · have hn : narrow ty (.int x) = .int x := by
                unfold xretOk at hro
                cases ty <;> first | exact hro | exact absurd rfl hty
              have e9 : xQc (some ty) Q (xB1 dC dI (va_A ws s.heap.size) S.length (xadr ws)) (va_A ws s.heap.size) = va_Qi (fun v => xpo Q (some (.int v))) (xB1 dC dI (va_A ws s.heap.size) S.length (xadr ws)) (va_A ws s.heap.size) := by
                unfold xQc
                cases ty <;> first | rfl | exact absurd rfl hty
              rw [e9]
              exact W.zret B.exec B.bytes hr hn (fun t ht hW => ⟨⟨x, (S', I', J', r', ws', tys'), rfl, hQ, hB t ht hW⟩, hS'.F ht⟩) hS'.2.2 hdec hlocks
        | _ => cases rt with
          | none => exact hro.elim
          | some ty => cases ty <;> exact hro.elim
    have key := hrun (XW p l e (xroom (d + 1) k) s m (as.map (xtr (xadr ws) sV)).toArray below meth c dC dI (va_A ws s.heap.size) (xadr ws) S.length sV (xm k).2.2.1 (mck k) (msk k) (MQ below (xQc (xm k).2.2.2 Q (xB1 dC dI (va_A ws s.heap.size) S.length (xadr ws)) (va_A ws s.heap.size)) (as.map (xtr (xadr ws) sV)).toArray s (mck k) (msk k) (va_A ws s.heap.size))) (fun pc L st S I J r cu su hw => xs_blk F (rt := (xm k).2.2.2) (d0 := d) (Nat.le_refl _) (Nat.le_refl _) (fun k' as' S' I' J' r' Q' hc => xcall_ok hM hMb hno l dC dI sV d k' as' S' I' J' r' Q' hc) (fun _ _ _ _ _ _ _ _ _ q => q) hret _ pc L st S I J r cu su (xfind_ok (p := fun pc is => xblkOk (xm k).1.cls (xm k).2.1 (xm k).2.2.1 (xm k).2.2.2 (decide ((xm k).1.name = "<init>")) false pc is) rfl hmb) hw)
    have hs := F.cat
    have e1 : mlk k = (xm k).2.2.1 := hml0
    rw [e1] at key hsz
    have fin := key ((lg_sl (as.map (xtr (xadr ws) sV)) ++ List.replicate ((xm k).2.2.1 - (lg_sl (as.map (xtr (xadr ws) sV))).length) Slot.unset).toArray) s.heap [] ws tys ⟨xent_ls hs hsz, ⟨hK, hP, hD, hS, hX⟩, xent_ok has, fun v hv => (by cases hv), Nat.zero_le _, Nat.zero_le _⟩
    rw [lg_entry_eq]
    exact fin
