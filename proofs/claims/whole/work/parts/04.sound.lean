/-! SOUNDNESS OF THE ABSTRACT MACHINE, a row an operation -/
def xadr (ws : va_W) (k : Nat) : Nat := match ws[k]? with
  | some q => q.1
  | none => 0
def xtr (ad : Nat → Nat) (sV : Nat → Value) : Value → Value
  | .ref k => .ref (ad k)
  | .retAddr i => sV i
  | v => v
def xmk : Value → Bool
  | .float _ => true
  | _ => false
def xfld (ad : Nat → Nat) (I : XI) (J : XJ) (r : XR) (t q k : Nat) : Value := match xkd t k with
  | 0 => .int (I q k)
  | 1 => .long (J q k)
  | _ => va_rf ((r q k).map ad)
def xobj (ad : Nat → Nat) (I : XI) (J : XJ) (r : XR) (t q : Nat) : List Value := (List.range (nfc t)).map (xfld ad I J r t q)
def xarr (ad : Nat → Nat) (I : XI) (J : XJ) (r : XR) (t n q : Nat) : vp_A := match t with
  | 100 => (n, .inl (I q))
  | 101 => (n, .inr (.inl (J q)))
  | 102 => (n, .inl (I q))
  | _ => (n, .inr (.inr (.inr (.inr (fun j => (r q j).map ad)))))
def xcell (ad : Nat → Nat) (I : XI) (J : XJ) (r : XR) (cA : ClassId) (t n q : Nat) : va_E := if t < 100 then .inr (t, xobj ad I J r t q) else .inl (cA, xarr ad I J r t n q)
def xok (S : XS) : Value → Prop
  | .ref k => k < S.length
  | _ => True
def XRel (a0 : Nat → Nat) (n0 : Nat) (tys : List (ClassId × FieldType)) (ws : va_W) (S : XS) (I : XI) (J : XJ) (r : XR) : Prop :=
  ws.length = S.length ∧
  (∀ q t n : Nat, S[q]? = some (t, n) → ∃ cA : ClassId, ws[q]? = some (xadr ws q, xcell (xadr ws) I J r cA t n q) ∧ (100 ≤ t → ∃ t0 : Nat, tys[t0]? = some (cA, xaty t))) ∧
  (∀ q k v : Nat, r q k = some v → v < S.length) ∧
  (∀ q n j : Nat, S[q]? = some (102, n) → (I q j).toInt8.toInt32 = I q j) ∧
  n0 ≤ S.length ∧ ∀ k, k < n0 → xadr ws k = a0 k
def xlens : List Nat := xstb.map List.length
def xbyts : List (List Int32) := xstb.map (fun l => l.map nI)
def XSv (A : Nat → Prop) (U : State) (H : Heap) (adK adV : Nat → Nat) : Prop := ∀ i : Nat, i < 29 → va_O "java/lang/String" (adK i) A U H ∧ va_OF "java/lang/String" "coder" "B" (.int 0) (adK i) A U H ∧ va_OF "java/lang/String" "value" "[B" (.ref (adV i)) (adK i) A U H ∧ va_T .byte (adV i) (xlens.getD i 0) (fun j => .int ((xbyts.getD i []).getD j 0)) A U H
theorem XSv.moved {A : Nat → Prop} {u U : State} {H : Heap} {adK adV : Nat → Nat} (hvm : u.vm.Alike U.vm) (h : XSv A u H adK adV) : XSv A U H adK adV :=
  fun i hi => ⟨va_O.moved hvm (h i hi).1, va_OF.moved hvm (h i hi).2.1, va_OF.moved hvm (h i hi).2.2.1, va_T.moved hvm (h i hi).2.2.2⟩
theorem XSv.kept {A : Nat → Prop} {U : State} {H H1 : Heap} {adK adV : Nat → Nat} (h : XSv A U H adK adV) (hq : ∀ a : Nat, a < H.size → ¬ A a → H1[a]? = H[a]?) : XSv A U H1 adK adV :=
  fun i hi => ⟨(h i hi).1.kept hq, (h i hi).2.1.kept hq, (h i hi).2.2.1.kept hq, (h i hi).2.2.2.kept hq⟩
theorem XSv.narrow {A B : Nat → Prop} {U : State} {H : Heap} {adK adV : Nat → Nat} (h : XSv A U H adK adV) (hAB : ∀ q, B q → A q) : XSv B U H adK adV :=
  fun i hi => ⟨(h i hi).1.narrow hAB, (h i hi).2.1.narrow hAB, (h i hi).2.2.1.narrow hAB, (h i hi).2.2.2.narrow hAB⟩
theorem XSv.recv {A : Nat → Prop} {s : State} {H : Heap} {locs : List Loc} {adK adV : Nat → Nat} {i : Nat} (hE : XSv A s s.heap adK adV) (hi : i < 29) (hS : va_S A s.heap H locs) : ∃ cell : Cell, H[adK i]? = some cell ∧ cell.vm.isStatics = false ∧ s.vm.findClass "java/lang/String" = some cell.cls := by
  obtain ⟨cell, h1, h2, h3, -⟩ := (hE i hi).1.kept hS.2.1
  exact ⟨cell, h1, h2, h3⟩
def XStr (A : Nat → Prop) (sV : Nat → Value) (U : State) (H : Heap) : Prop :=
  (∃ adK adV : Nat → Nat, XSv A U H adK adV ∧ ∀ i, i < 29 → (∀ x, xstl[i]? = some x → vk_R x.1 x.2.1 x.2.2 (adK i) U) ∧ sV i = .ref (adK i) ∧ sV (1000 + i) = .ref (adV i)) ∧
  va_Z "java/lang/String" "COMPACT_STRINGS" "Z" (.int 1) A U H ∧ va_Z "jdk/internal/util/Preconditions" "SIOOBE_FORMATTER" "Ljava/util/function/BiFunction;" (sV 2000) A U H ∧ (∀ i, sV i = .null ∨ ∃ b, sV i = .ref b) ∧ va_AO "FreckleChart$Coast" U ∧ va_AOA .long U ∧ ∀ q ∈ xnl, va_Nw (.methodLinkNest q.1 q.2.1 q.2.2 "FreckleChart") U
def XScr (sc : Nat × (Nat → Int32)) (A : Nat → Prop) (sV : Nat → Value) (s : State) : Prop := ∃ b : Nat, sV 3000 = .ref b ∧ va_X b sc.1 sc.2 s s.heap ∧ b < s.heap.size ∧ ¬ A b
def XFx (p : Program) (s : State) (m : MethodId) (meth : Method) (c : Code) (args : Array Value) (Rm : Room) (cc : ByteArray) (own : String) (nL : Nat) (ini law : Bool) (sc : Nat × (Nat → Int32)) (mc ms : Nat) (A : Nat → Prop) (sV : Nat → Value) : Prop :=
  p.tables.exec = Jvm.exec ∧ c.code = cc ∧ c.maxLocals = nL ∧ s.vm.findClass own = some m.cls ∧ (∀ w ∈ xW, w.before args s = true) ∧ (ini = true → meth.name = "<init>") ∧ (∀ q : Nat, s.heap.size ≤ q → A q) ∧
  XStr A sV s s.heap ∧ (law = true → XScr sc A sV s) ∧ 1 ≤ Rm.frames ∧ 40 ≤ Rm.locals ∧ mc ≤ Rm.cells ∧ ms ≤ Rm.slots
def XLs (ad : Nat → Nat) (sV : Nat → Value) (nL : Nat) (ls : Array Slot) (L : XV) : Prop := ls.size = nL ∧ lv_wf ls ∧ ∀ (i : Nat) (v : Value), L[i]? = some v → xmk v = false → ls[i]? = some (.val (xtr ad sV v))
def XMem (dC : Nat → ClassId) (dI : Nat → Nat → Nat) (A : Nat → Prop) (s : State) (a0 : Nat → Nat) (n0 : Nat) (H : Heap) (locs : List Loc) (ws : va_W) (tys : List (ClassId × FieldType)) (S : XS) (I : XI) (J : XJ) (r : XR) : Prop :=
  va_K (dC, dI) xcl tys s ∧ va_P (dC, dI) xcl ws H ∧ va_D A ws ∧ va_S A s.heap H locs ∧ XRel a0 n0 tys ws S I J r
def XH (dC : Nat → ClassId) (dI : Nat → Nat → Nat) (A : Nat → Prop) (s : State) (a0 : Nat → Nat) (n0 : Nat) (sV : Nat → Value) (nL mc ms : Nat) (ls : Array Slot) (H : Heap) (locs : List Loc) (ws : va_W) (tys : List (ClassId × FieldType)) (L st : XV) (S : XS) (I : XI) (J : XJ) (r : XR) (cu su : Nat) : Prop :=
  XLs (xadr ws) sV nL ls L ∧ XMem dC dI A s a0 n0 H locs ws tys S I J r ∧ (∀ v ∈ L, xok S v) ∧ (∀ v ∈ st, xok S v) ∧ cu ≤ mc ∧ su ≤ ms
/-- the machine's predicate for a state of the abstract machine -/
def XW (p : Program) (l : Launch) (e : Env) (Rm : Room) (s : State) (m : MethodId) (args : Array Value) (below : List Frame) (meth : Method) (c : Code) (dC : Nat → ClassId) (dI : Nat → Nat → Nat) (A : Nat → Prop) (a0 : Nat → Nat) (n0 : Nat) (sV : Nat → Value) (nL mc ms : Nat) (Zf : State → Prop) : XN :=
  fun pc L st S I J r cu su => ∀ (ls : Array Slot) (H : Heap) (locs : List Loc) (ws : va_W) (tys : List (ClassId × FieldType)), XH dC dI A s a0 n0 sV nL mc ms ls H locs ws tys L st S I J r cu su →
    W p l e Rm s m args below meth c H locs cu su Zf (F0 m pc ls (st.map (xtr (xadr ws) sV)))
theorem xdec_ok {b : ByteArray} {pc len : Nat} {i : Instr} (h : xdec b pc i len = true) : decode b pc = .ok (i, len) := of_decide_eq_true h
/-! lemmas of the picture -/
theorem xadr_of {ws : va_W} {q : Nat} {x : Nat × va_E} (h : ws[q]? = some x) : xadr ws q = x.1 := by simp [xadr, h]
theorem xadr_set {ws : va_W} {q : Nat} {e : va_E} {x : Nat × va_E} (h : ws[q]? = some x) : xadr (ws.set q (xadr ws q, e)) = xadr ws := by
  have hq : q < ws.length := (List.getElem?_eq_some_iff.mp h).1
  funext k
  by_cases hk : k = q
  · subst hk
    simp [xadr, List.getElem?_set, hq]
  · simp [xadr, List.getElem?_set, Ne.symm hk]
theorem XRel.set {a0 : Nat → Nat} {n0 : Nat} {tys : List (ClassId × FieldType)} {ws : va_W} {S : XS} {I I' : XI} {J J' : XJ} {r r' : XR} (h : XRel a0 n0 tys ws S I J r) {q t n : Nat} (hq : S[q]? = some (t, n)) {cA : ClassId} (hc : ws[q]? = some (xadr ws q, xcell (xadr ws) I J r cA t n q)) (hty : 100 ≤ t → ∃ t0 : Nat, tys[t0]? = some (cA, xaty t))
    (hI : ∀ p, p ≠ q → I' p = I p) (hJ : ∀ p, p ≠ q → J' p = J p) (hr : ∀ p, p ≠ q → r' p = r p) (hv : ∀ k v : Nat, r' q k = some v → v < S.length) (hb : t = 102 → ∀ j, (I' q j).toInt8.toInt32 = I' q j) :
    XRel a0 n0 tys (ws.set q (xadr ws q, xcell (xadr ws) I' J' r' cA t n q)) S I' J' r' := by
  obtain ⟨h1, h2, h3, h4, h5, h6⟩ := h
  have hqs : q < ws.length := (List.getElem?_eq_some_iff.mp hc).1
  have had := xadr_set (e := xcell (xadr ws) I' J' r' cA t n q) hc
  refine ⟨by simp [h1], fun p t' n' hp => ?_, fun p k v hp => ?_, fun p n' j hp => ?_, h5, fun k hk => by rw [had]; exact h6 k hk⟩
  · rw [had]
    by_cases e : p = q
    · subst e
      rw [hq] at hp
      cases hp
      exact ⟨cA, by simp [List.getElem?_set, hqs], hty⟩
    · obtain ⟨c', g1, g2⟩ := h2 p t' n' hp
      refine ⟨c', ?_, g2⟩
      rw [List.getElem?_set, if_neg (Ne.symm e), g1]
      have e1 : xcell (xadr ws) I J r c' t' n' p = xcell (xadr ws) I' J' r' c' t' n' p := by
        unfold xcell
        split
        · congr 2
          unfold xobj
          congr 1
          funext k
          unfold xfld
          rw [hI p e, hJ p e, hr p e]
        · congr 2
          unfold xarr
          split <;> simp only [hI p e, hJ p e, hr p e]
      rw [e1]
  · by_cases e : p = q
    · subst e; exact hv k v hp
    · rw [hr p e] at hp; exact h3 p k v hp
  · by_cases e : p = q
    · subst e
      rw [hq] at hp
      cases hp
      exact hb rfl j
    · rw [hI p e]; exact h4 p n' j hp
/-- the cell at a place -/
theorem XRel.at {a0 : Nat → Nat} {n0 : Nat} {tys : List (ClassId × FieldType)} {ws : va_W} {S : XS} {I : XI} {J : XJ} {r : XR} (h : XRel a0 n0 tys ws S I J r) {q t n : Nat} (hq : S[q]? = some (t, n)) : ∃ cA : ClassId, ws[q]? = some (xadr ws q, xcell (xadr ws) I J r cA t n q) ∧ (100 ≤ t → ∃ t0 : Nat, tys[t0]? = some (cA, xaty t)) := h.2.1 q t n hq
theorem up2_same {α : Type} {f : Nat → Nat → α} {a i : Nat} {v : α} : up2 f a i v a = fun j => if j = i then v else f a j := by funext j; simp [up2]
theorem up2_ne {α : Type} {f : Nat → Nat → α} {a i p : Nat} {v : α} (h : p ≠ a) : up2 f a i v p = f p := by funext j; simp [up2, h]
theorem upd_up2 {f : XI} {a i : Nat} {v : Int32} : upd (f a) i v = up2 f a i v a := by rw [up2_same]; funext j; simp [upd]
theorem updL_up2 {f : XJ} {a i : Nat} {v : Int64} : vp_updL (f a) i v = up2 f a i v a := by rw [up2_same]; funext j; simp [vp_updL]
theorem xok_mono {S S' : XS} (h : S.length ≤ S'.length) {v : Value} (hv : xok S v) : xok S' v := by
  cases v <;> first | trivial | exact Nat.lt_of_lt_of_le hv h
theorem xtr_int {ad : Nat → Nat} {sV : Nat → Value} {x : Int32} : xtr ad sV (.int x) = .int x := rfl
theorem xtr_rf {ad : Nat → Nat} {sV : Nat → Value} {o : Option Nat} : xtr ad sV (va_rf o) = va_rf (o.map ad) := by cases o <;> rfl
theorem xtr_cat {ad : Nat → Nat} {sV : Nat → Value} (hs : ∀ i, (sV i).category = 1) (v : Value) : (xtr ad sV v).category = v.category := by
  cases v <;> first | rfl | (show (sV _).category = _; rw [hs]; rfl)
theorem xsz_sum {ad : Nat → Nat} {sV : Nat → Value} (hs : ∀ i, (sV i).category = 1) (st : XV) : ((st.map (xtr ad sV)).map fun v => v.category).sum = xsz st := by
  induction st with
  | nil => rfl
  | cons v vs ih =>
    simp only [List.map_cons, List.sum_cons, xsz, xtr_cat hs]
    rw [ih]
/-! the locals -/
def xlv (ad : Nat → Nat) (sV : Nat → Value) : Nat → XV → List (Nat × Value)
  | _, [] => []
  | i, v :: L => if xmk v then xlv ad sV (i + 1) L else (i, xtr ad sV v) :: xlv ad sV (i + 1) L
theorem xlv_mem {ad : Nat → Nat} {sV : Nat → Value} : ∀ (L : XV) (i : Nat) (q : Nat × Value), q ∈ xlv ad sV i L ↔ ∃ (j : Nat) (v : Value), L[j]? = some v ∧ xmk v = false ∧ q = (i + j, xtr ad sV v)
  | [], i, q => by simp [xlv]
  | v :: L, i, q => by
    have ih := xlv_mem (ad := ad) (sV := sV) L (i + 1) q
    have go : (∃ (j : Nat) (u : Value), L[j]? = some u ∧ xmk u = false ∧ q = (i + 1 + j, xtr ad sV u)) → ∃ (j : Nat) (u : Value), (v :: L)[j]? = some u ∧ xmk u = false ∧ q = (i + j, xtr ad sV u) := by
      rintro ⟨j, u, a, b, c⟩
      exact ⟨j + 1, u, by simpa using a, b, by rw [c]; congr 1; omega⟩
    have back : ∀ (j : Nat) (u : Value), (v :: L)[j + 1]? = some u → xmk u = false → q = (i + (j + 1), xtr ad sV u) → ∃ (j : Nat) (u : Value), L[j]? = some u ∧ xmk u = false ∧ q = (i + 1 + j, xtr ad sV u) := by
      intro j u a b c
      exact ⟨j, u, by simpa using a, b, by rw [c]; congr 1; omega⟩
    by_cases hm : xmk v = true
    · rw [xlv, if_pos hm, ih]
      constructor
      · exact go
      · rintro ⟨j, u, a, b, c⟩
        cases j with
        | zero => simp at a; subst a; rw [hm] at b; cases b
        | succ j => exact back j u a b c
    · rw [xlv, if_neg hm, List.mem_cons, ih]
      constructor
      · rintro (h | h)
        · exact ⟨0, v, rfl, by simpa using hm, h⟩
        · exact go h
      · rintro ⟨j, u, a, b, c⟩
        cases j with
        | zero => simp at a; subst a; exact Or.inl c
        | succ j => exact Or.inr (back j u a b c)
theorem XLs.has {ad : Nat → Nat} {sV : Nat → Value} {nL : Nat} {ls : Array Slot} {L : XV} (h : XLs ad sV nL ls L) : lv_has ls nL (xlv ad sV 0 L) := by
  refine ⟨h.1, h.2.1, fun q hq => ?_⟩
  obtain ⟨j, v, a, b, c⟩ := (xlv_mem L 0 q).mp hq
  rw [c, Nat.zero_add]
  exact h.2.2 j v a b
theorem lget_at {L : XV} {i : Nat} {v : Value} (h : lget L i = v) (hm : xmk v = false) : L[i]? = some v := by
  unfold lget at h
  rw [List.getD_eq_getElem?_getD] at h
  cases hx : L[i]? with
  | none => rw [hx] at h; simp at h; subst h; cases hm
  | some u => rw [hx] at h; simp at h; rw [h]
theorem lget_of {L : XV} {i : Nat} {v : Value} (h : L[i]? = some v) : lget L i = v := by simp [lget, List.getD_eq_getElem?_getD, h]
theorem lset1_get {L : XV} {i j : Nat} {v u : Value} (h : (lset1 L i v)[j]? = some u) : (j = i ∧ u = v) ∨ (j ≠ i ∧ (u = .float 0 ∨ (L[j]? = some u ∧ (j + 1 = i → isL2 u = false)))) := by
  cases i with
  | zero =>
    unfold lset1 at h
    by_cases e : j = 0
    · subst e
      left
      rw [List.getElem?_set] at h
      simp at h
      exact ⟨rfl, h.2.symm⟩
    · right
      rw [List.getElem?_set, if_neg (Ne.symm e)] at h
      exact ⟨e, Or.inr ⟨h, fun q => by omega⟩⟩
  | succ i =>
    unfold lset1 at h
    by_cases e : j = i + 1
    · subst e
      left
      rw [List.getElem?_set] at h
      simp at h
      exact ⟨rfl, h.2.symm⟩
    · right
      refine ⟨e, ?_⟩
      rw [List.getElem?_set, if_neg (Ne.symm e), List.getElem?_set] at h
      by_cases e2 : i = j
      · subst e2
        rw [if_pos rfl] at h
        split at h
        · rename_i hlt
          have h1 : xkp (lget L i) = u := by simpa using h
          unfold xkp at h1
          by_cases hl : isL2 (lget L i) = true
          · rw [if_pos hl] at h1
            exact Or.inl h1.symm
          · rw [if_neg hl] at h1
            refine Or.inr ⟨?_, fun _ => by rw [← h1]; simpa using hl⟩
            rw [← h1]
            unfold lget
            rw [List.getD_eq_getElem?_getD, List.getElem?_eq_getElem hlt]
            rfl
        · cases h
      · rw [if_neg e2] at h
        exact Or.inr ⟨h, fun q => by omega⟩
theorem lset1_mem {L : XV} {i : Nat} {v u : Value} (h : u ∈ lset1 L i v) : u = v ∨ u = .float 0 ∨ u ∈ L := by
  obtain ⟨j, hj⟩ := List.getElem?_of_mem h
  rcases lset1_get hj with ⟨-, e⟩ | ⟨-, e | ⟨e, -⟩⟩
  · exact Or.inl e
  · exact Or.inr (Or.inl e)
  · exact Or.inr (Or.inr (List.mem_of_getElem? e))
theorem XLs.set1 {ad : Nat → Nat} {sV : Nat → Value} {nL : Nat} {ls' : Array Slot} {L : XV} {i : Nat} {v : Value} (h' : lv_has ls' nL ((i, xtr ad sV v) :: (xlv ad sV 0 L).filter (fun q => !(q.1 == i) && !(q.1 + 1 == i && q.2.category == 2)))) (hs : ∀ i, (sV i).category = 1) : XLs ad sV nL ls' (lset1 L i v) := by
  refine ⟨h'.1, h'.2.1, fun j u hj hm => ?_⟩
  rcases lset1_get hj with ⟨e1, e2⟩ | ⟨e1, e2 | ⟨e2, e3⟩⟩
  · subst e1; subst e2
    exact h'.2.2 (j, xtr ad sV u) List.mem_cons_self
  · subst e2; cases hm
  · refine h'.2.2 (j, xtr ad sV u) (List.mem_cons_of_mem _ (List.mem_filter.mpr ⟨(xlv_mem L 0 _).mpr ⟨j, u, e2, hm, by simp⟩, ?_⟩))
    simp only [Bool.and_eq_true, Bool.not_eq_true', beq_eq_false_iff_ne, ne_eq, Bool.and_eq_false_iff]
    refine ⟨e1, ?_⟩
    by_cases q : j + 1 = i
    · right
      have h3 := e3 q
      rw [xtr_cat hs]
      cases u <;> first | (show ¬ (1 = 2); omega) | (simp [isL2] at h3)
    · left; exact q
section XOps
variable {p : Program} {l : Launch} {e : Env} {Rm : Room} {s : State} {m : MethodId} {args : Array Value} {below : List Frame} {meth : Method} {c : Code} {dC : Nat → ClassId} {dI : Nat → Nat → Nat} {A : Nat → Prop} {a0 : Nat → Nat} {n0 : Nat} {sV : Nat → Value} {nL mc ms : Nat} {Zf : State → Prop} {cc : ByteArray} {own : String} {ini law : Bool} {sc : Nat × (Nat → Int32)} {K : XK} {pc pc' : Nat} {L st : XV} {S : XS} {I : XI} {J : XJ} {r : XR} {cu su : Nat}
/-- one more on the stack, by a row that needs no more -/
theorem XH.push {ls : Array Slot} {H : Heap} {locs : List Loc} {ws : va_W} {tys : List (ClassId × FieldType)} {st' : XV} (h : XH dC dI A s a0 n0 sV nL mc ms ls H locs ws tys L st S I J r cu su) (hs : ∀ v ∈ st', xok S v) : XH dC dI A s a0 n0 sV nL mc ms ls H locs ws tys L st' S I J r cu su :=
  ⟨h.1, h.2.1, h.2.2.1, hs, h.2.2.2.2⟩
theorem ok_cons {v : Value} (hv : xok S v) (h : ∀ v ∈ st, xok S v) : ∀ u ∈ v :: st, xok S u := fun u hu => by
  rcases List.mem_cons.mp hu with rfl | hu
  · exact hv
  · exact h u hu
theorem ok_tl {v : Value} (h : ∀ u ∈ v :: st, xok S u) : ∀ u ∈ st, xok S u := fun u hu => h u (List.mem_cons_of_mem _ hu)
theorem ok_hd {v : Value} (h : ∀ u ∈ v :: st, xok S u) : xok S v := h v List.mem_cons_self
theorem XFx.cat (F : XFx p s m meth c args Rm cc own nL ini law sc mc ms A sV) : ∀ i, (sV i).category = 1 := fun i => by
  rcases F.2.2.2.2.2.2.2.1.2.2.2.1 i with h | ⟨b, h⟩ <;> rw [h] <;> rfl
/-- a store of one slot -/
theorem XH.st1 {ls ls' : Array Slot} {H : Heap} {locs : List Loc} {ws : va_W} {tys : List (ClassId × FieldType)} {i : Nat} {v : Value} (h : XH dC dI A s a0 n0 sV nL mc ms ls H locs ws tys L st S I J r cu su) (h' : lv_has ls' nL ((i, xtr (xadr ws) sV v) :: (xlv (xadr ws) sV 0 L).filter (fun q => !(q.1 == i) && !(q.1 + 1 == i && q.2.category == 2)))) (hs : ∀ i, (sV i).category = 1) (hv : xok S v) {st' : XV} (hst : ∀ v ∈ st', xok S v) :
    XH dC dI A s a0 n0 sV nL mc ms ls' H locs ws tys (lset1 L i v) st' S I J r cu su :=
  ⟨XLs.set1 h' hs, h.2.1, fun u hu => by
    rcases lset1_mem hu with rfl | rfl | hu
    · exact hv
    · trivial
    · exact h.2.2.1 u hu, hst, h.2.2.2.2⟩
theorem xs_iconst (F : XFx p s m meth c args Rm cc own nL ini law sc mc ms A sV) {d a : Nat} {z : Int32} (hd : (d = 0 ∧ pc' = pc + 1 ∧ decode cc pc = .ok (.iconst z.toInt, 1)) ∨ (d = 1 ∧ pc' = pc + 2 ∧ decode cc pc = .ok (.bipush z.toInt, 2) ∧ (Int8.ofInt z.toInt).toInt32 = z) ∨ (d = 2 ∧ pc' = pc + 3 ∧ decode cc pc = .ok (.sipush z.toInt, 3) ∧ (Int16.ofInt z.toInt).toInt32 = z) ∨ (d = 3 ∧ pc' = pc + 2 ∧ decode cc pc = .ok (.ldc a, 2) ∧ Cond.constant own a z ∈ xW) ∨ (d = 4 ∧ pc' = pc + 3 ∧ decode cc pc = .ok (.ldc_w a, 3) ∧ Cond.constant own a z ∈ xW))
    (k : XW p l e Rm s m args below meth c dC dI A a0 n0 sV nL mc ms Zf pc' L (.int z :: st) S I J r cu su) : XW p l e Rm s m args below meth c dC dI A a0 n0 sV nL mc ms Zf pc L st S I J r cu su := by
  intro ls H locs ws tys h
  have k1 := k ls H locs ws tys (h.push (ok_cons trivial h.2.2.2.1))
  obtain ⟨hx, hb, -, hown, hts, -⟩ := F
  rcases hd with ⟨-, rfl, h1⟩ | ⟨-, rfl, h1, h2⟩ | ⟨-, rfl, h1, h2⟩ | ⟨-, rfl, h1, h2⟩ | ⟨-, rfl, h1, h2⟩
  · exact lv_iconst hx hb h1 (Int32.ofInt_toInt z) k1
  · exact lv_bipush hx hb h1 h2 k1
  · exact lv_sipush hx hb h1 h2 k1
  · exact lv_ldc hx hb hown (hts _ h2) h1 k1
  · exact lv_ldcw hx hb hown (hts _ h2) h1 k1
theorem xs_lconst (F : XFx p s m meth c args Rm cc own nL ini law sc mc ms A sV) {a : Nat} {w : Int64} (hd : (pc' = pc + 1 ∧ ((w = 0 ∧ decode cc pc = .ok (.lconst 0, 1)) ∨ (w = 1 ∧ decode cc pc = .ok (.lconst 1, 1)))) ∨ (pc' = pc + 3 ∧ decode cc pc = .ok (.ldc2_w a, 3) ∧ Cond.constantLong own a w ∈ xW))
    (k : XW p l e Rm s m args below meth c dC dI A a0 n0 sV nL mc ms Zf pc' L (.long w :: st) S I J r cu su) : XW p l e Rm s m args below meth c dC dI A a0 n0 sV nL mc ms Zf pc L st S I J r cu su := by
  intro ls H locs ws tys h
  have k1 := k ls H locs ws tys (h.push (ok_cons trivial h.2.2.2.1))
  obtain ⟨hx, hb, -, hown, hts, -⟩ := F
  rcases hd with ⟨rfl, ⟨rfl, h1⟩ | ⟨rfl, h1⟩⟩ | ⟨rfl, h1, h2⟩
  · exact lv_lconst hx hb h1 (by decide) k1
  · exact lv_lconst hx hb h1 (by decide) k1
  · exact lv_ldc2 hx hb hown (hts _ h2) h1 k1
theorem xs_ldcS (F : XFx p s m meth c args Rm cc own nL ini law sc mc ms A sV) {a b : Nat} {tx : String} (hb29 : b < 29) (hx9 : xstl[b]? = some (own, a, tx)) (hd : decode cc pc = .ok (.ldc a, 2))
    (k : XW p l e Rm s m args below meth c dC dI A a0 n0 sV nL mc ms Zf (pc + 2) L (.retAddr b :: st) S I J r cu su) : XW p l e Rm s m args below meth c dC dI A a0 n0 sV nL mc ms Zf pc L st S I J r cu su := by
  intro ls H locs ws tys h
  have k1 := k ls H locs ws tys (h.push (ok_cons trivial h.2.2.2.1))
  obtain ⟨hx, hb, -, hown, hts, -, -, ⟨⟨adK, adV, -, h9⟩, -⟩, -⟩ := F
  obtain ⟨g1, g2, -⟩ := h9 b hb29
  refine va_ldcS hx hb hown (g1 _ hx9) hd ?_
  have e1 : xtr (xadr ws) sV (.retAddr b) = .ref (adK b) := g2
  rw [List.map_cons, e1] at k1
  exact k1
theorem xs_null (F : XFx p s m meth c args Rm cc own nL ini law sc mc ms A sV) (hd : decode cc pc = .ok (.aconst_null, 1))
    (k : XW p l e Rm s m args below meth c dC dI A a0 n0 sV nL mc ms Zf (pc + 1) L (.null :: st) S I J r cu su) : XW p l e Rm s m args below meth c dC dI A a0 n0 sV nL mc ms Zf pc L st S I J r cu su := by
  intro ls H locs ws tys h
  exact lv_null F.1 F.2.1 hd (k ls H locs ws tys (h.push (ok_cons trivial h.2.2.2.1)))
theorem xs_iload (F : XFx p s m meth c args Rm cc own nL ini law sc mc ms A sV) {a : Nat} {x : Int32} (hg : lget L a = .int x) (hd : (pc' = pc + 1 ∧ ∃ k : Fin 4, (k : Nat) = a ∧ decode cc pc = .ok (.iload_n k, 1)) ∨ (pc' = pc + 2 ∧ decode cc pc = .ok (.iload a, 2)))
    (k : XW p l e Rm s m args below meth c dC dI A a0 n0 sV nL mc ms Zf pc' L (.int x :: st) S I J r cu su) : XW p l e Rm s m args below meth c dC dI A a0 n0 sV nL mc ms Zf pc L st S I J r cu su := by
  intro ls H locs ws tys h
  have k1 := k ls H locs ws tys (h.push (ok_cons trivial h.2.2.2.1))
  have hl := h.1.2.2 a _ (lget_at hg rfl) rfl
  rcases hd with ⟨rfl, f, h0, h1⟩ | ⟨rfl, h1⟩
  · exact lv_iload_n F.1 F.2.1 h1 h0 hl k1
  · exact lv_iload F.1 F.2.1 h1 hl k1
theorem xs_lload (F : XFx p s m meth c args Rm cc own nL ini law sc mc ms A sV) {a : Nat} {x : Int64} (hg : lget L a = .long x) (hd : (pc' = pc + 1 ∧ ∃ k : Fin 4, (k : Nat) = a ∧ decode cc pc = .ok (.lload_n k, 1)) ∨ (pc' = pc + 2 ∧ decode cc pc = .ok (.lload a, 2)))
    (k : XW p l e Rm s m args below meth c dC dI A a0 n0 sV nL mc ms Zf pc' L (.long x :: st) S I J r cu su) : XW p l e Rm s m args below meth c dC dI A a0 n0 sV nL mc ms Zf pc L st S I J r cu su := by
  intro ls H locs ws tys h
  have k1 := k ls H locs ws tys (h.push (ok_cons trivial h.2.2.2.1))
  have hl := h.1.2.2 a _ (lget_at hg rfl) rfl
  rcases hd with ⟨rfl, f, h0, h1⟩ | ⟨rfl, h1⟩
  · exact lv_lload_n F.1 F.2.1 h1 h0 hl k1
  · exact lv_lload F.1 F.2.1 h1 hl k1
theorem lget_mem {i : Nat} {v : Value} (h : lget L i = v) (hm : xmk v = false) : v ∈ L := List.mem_of_getElem? (lget_at h hm)
theorem xs_aload (F : XFx p s m meth c args Rm cc own nL ini law sc mc ms A sV) {a x : Nat} (hg : lget L a = .ref x) (hd : (pc' = pc + 1 ∧ ∃ k : Fin 4, (k : Nat) = a ∧ decode cc pc = .ok (.aload_n k, 1)) ∨ (pc' = pc + 2 ∧ decode cc pc = .ok (.aload a, 2)))
    (k : XW p l e Rm s m args below meth c dC dI A a0 n0 sV nL mc ms Zf pc' L (.ref x :: st) S I J r cu su) : XW p l e Rm s m args below meth c dC dI A a0 n0 sV nL mc ms Zf pc L st S I J r cu su := by
  intro ls H locs ws tys h
  have k1 := k ls H locs ws tys (h.push (ok_cons (h.2.2.1 _ (lget_mem hg rfl)) h.2.2.2.1))
  have hl := h.1.2.2 a _ (lget_at hg rfl) rfl
  rcases hd with ⟨rfl, f, h0, h1⟩ | ⟨rfl, h1⟩
  · exact lv_aload_n F.1 F.2.1 h1 h0 hl k1
  · exact lv_aload F.1 F.2.1 h1 hl k1
theorem xs_aloadR (F : XFx p s m meth c args Rm cc own nL ini law sc mc ms A sV) {a x : Nat} (hg : lget L a = .retAddr x) (hr0 : sV x = .null ∨ ∃ b, sV x = .ref b) (hd : (pc' = pc + 1 ∧ ∃ k : Fin 4, (k : Nat) = a ∧ decode cc pc = .ok (.aload_n k, 1)) ∨ (pc' = pc + 2 ∧ decode cc pc = .ok (.aload a, 2)))
    (k : XW p l e Rm s m args below meth c dC dI A a0 n0 sV nL mc ms Zf pc' L (.retAddr x :: st) S I J r cu su) : XW p l e Rm s m args below meth c dC dI A a0 n0 sV nL mc ms Zf pc L st S I J r cu su := by
  intro ls H locs ws tys h
  have k1 := k ls H locs ws tys (h.push (ok_cons trivial h.2.2.2.1))
  have hl := h.1.2.2 a _ (lget_at hg rfl) rfl
  have e1 : xtr (xadr ws) sV (.retAddr x) = sV x := rfl
  rw [List.map_cons, e1] at k1
  rw [e1] at hl
  rcases hr0 with e2 | ⟨b, e2⟩
  · rw [e2] at k1 hl
    rcases hd with ⟨rfl, f, h0, h1⟩ | ⟨rfl, h1⟩
    · exact lv_aload_nN F.1 F.2.1 h1 h0 hl k1
    · exact lv_aloadN F.1 F.2.1 h1 hl k1
  · rw [e2] at k1 hl
    rcases hd with ⟨rfl, f, h0, h1⟩ | ⟨rfl, h1⟩
    · exact lv_aload_n F.1 F.2.1 h1 h0 hl k1
    · exact lv_aload F.1 F.2.1 h1 hl k1
theorem xs_aloadN (F : XFx p s m meth c args Rm cc own nL ini law sc mc ms A sV) {a : Nat} (hg : lget L a = .null) (hd : (pc' = pc + 1 ∧ ∃ k : Fin 4, (k : Nat) = a ∧ decode cc pc = .ok (.aload_n k, 1)) ∨ (pc' = pc + 2 ∧ decode cc pc = .ok (.aload a, 2)))
    (k : XW p l e Rm s m args below meth c dC dI A a0 n0 sV nL mc ms Zf pc' L (.null :: st) S I J r cu su) : XW p l e Rm s m args below meth c dC dI A a0 n0 sV nL mc ms Zf pc L st S I J r cu su := by
  intro ls H locs ws tys h
  have k1 := k ls H locs ws tys (h.push (ok_cons trivial h.2.2.2.1))
  have hl := h.1.2.2 a _ (lget_at hg rfl) rfl
  rcases hd with ⟨rfl, f, h0, h1⟩ | ⟨rfl, h1⟩
  · exact lv_aload_nN F.1 F.2.1 h1 h0 hl k1
  · exact lv_aloadN F.1 F.2.1 h1 hl k1
theorem xs_istore (F : XFx p s m meth c args Rm cc own nL ini law sc mc ms A sV) {a : Nat} {x : Int32} (ha : a < nL) (hd : (pc' = pc + 1 ∧ ∃ k : Fin 4, (k : Nat) = a ∧ decode cc pc = .ok (.istore_n k, 1)) ∨ (pc' = pc + 2 ∧ decode cc pc = .ok (.istore a, 2)))
    (k : XW p l e Rm s m args below meth c dC dI A a0 n0 sV nL mc ms Zf pc' (lset1 L a (.int x)) st S I J r cu su) : XW p l e Rm s m args below meth c dC dI A a0 n0 sV nL mc ms Zf pc L (.int x :: st) S I J r cu su := by
  intro ls H locs ws tys h
  have go : ∀ ls', lv_has ls' nL ((a, Value.int x) :: (xlv (xadr ws) sV 0 L).filter (fun q => !(q.1 == a) && !(q.1 + 1 == a && q.2.category == 2))) → W p l e Rm s m args below meth c H locs cu su Zf (F0 m pc' ls' (st.map (xtr (xadr ws) sV))) :=
    fun ls' h' => k ls' H locs ws tys (XH.st1 (v := .int x) h h' F.cat trivial (ok_tl h.2.2.2.1))
  rcases hd with ⟨rfl, f, h0, h1⟩ | ⟨rfl, h1⟩
  · exact lv_istore_n F.1 F.2.1 h1 h0 h.1.has ha rfl go
  · exact lv_istore F.1 F.2.1 h1 h.1.has ha rfl go
theorem xs_astore (F : XFx p s m meth c args Rm cc own nL ini law sc mc ms A sV) {a x : Nat} (ha : a < nL) (hd : (pc' = pc + 1 ∧ ∃ k : Fin 4, (k : Nat) = a ∧ decode cc pc = .ok (.astore_n k, 1)) ∨ (pc' = pc + 2 ∧ decode cc pc = .ok (.astore a, 2)))
    (k : XW p l e Rm s m args below meth c dC dI A a0 n0 sV nL mc ms Zf pc' (lset1 L a (.ref x)) st S I J r cu su) : XW p l e Rm s m args below meth c dC dI A a0 n0 sV nL mc ms Zf pc L (.ref x :: st) S I J r cu su := by
  intro ls H locs ws tys h
  have go : ∀ ls', lv_has ls' nL ((a, Value.ref (xadr ws x)) :: (xlv (xadr ws) sV 0 L).filter (fun q => !(q.1 == a) && !(q.1 + 1 == a && q.2.category == 2))) → W p l e Rm s m args below meth c H locs cu su Zf (F0 m pc' ls' (st.map (xtr (xadr ws) sV))) :=
    fun ls' h' => k ls' H locs ws tys (XH.st1 (v := .ref x) h h' F.cat (ok_hd h.2.2.2.1) (ok_tl h.2.2.2.1))
  rcases hd with ⟨rfl, f, h0, h1⟩ | ⟨rfl, h1⟩
  · exact lv_astore_n F.1 F.2.1 h1 h0 h.1.has ha rfl go
  · exact lv_astore F.1 F.2.1 h1 h.1.has ha rfl go
theorem xs_astoreN (F : XFx p s m meth c args Rm cc own nL ini law sc mc ms A sV) {a : Nat} (ha : a < nL) (hd : (pc' = pc + 1 ∧ ∃ k : Fin 4, (k : Nat) = a ∧ decode cc pc = .ok (.astore_n k, 1)) ∨ (pc' = pc + 2 ∧ decode cc pc = .ok (.astore a, 2)))
    (k : XW p l e Rm s m args below meth c dC dI A a0 n0 sV nL mc ms Zf pc' (lset1 L a .null) st S I J r cu su) : XW p l e Rm s m args below meth c dC dI A a0 n0 sV nL mc ms Zf pc L (.null :: st) S I J r cu su := by
  intro ls H locs ws tys h
  have go : ∀ ls', lv_has ls' nL ((a, Value.null) :: (xlv (xadr ws) sV 0 L).filter (fun q => !(q.1 == a) && !(q.1 + 1 == a && q.2.category == 2))) → W p l e Rm s m args below meth c H locs cu su Zf (F0 m pc' ls' (st.map (xtr (xadr ws) sV))) :=
    fun ls' h' => k ls' H locs ws tys (XH.st1 (v := .null) h h' F.cat trivial (ok_tl h.2.2.2.1))
  rcases hd with ⟨rfl, f, h0, h1⟩ | ⟨rfl, h1⟩
  · exact lv_astore_nN F.1 F.2.1 h1 h0 h.1.has ha rfl go
  · exact lv_astoreN F.1 F.2.1 h1 h.1.has ha rfl go
theorem XLs.set2 {ad : Nat → Nat} {ls' : Array Slot} {i : Nat} {v : Value} (h' : lv_has ls' nL ((i, xtr ad sV v) :: (xlv ad sV 0 L).filter (fun q => !(q.1 == i) && (!(q.1 == i + 1) && !(q.1 + 1 == i && q.2.category == 2))))) (hs : ∀ i, (sV i).category = 1) : XLs ad sV nL ls' (lset2 L i v) := by
  refine ⟨h'.1, h'.2.1, fun j u hj hm => ?_⟩
  unfold lset2 at hj
  rw [List.getElem?_set] at hj
  by_cases q1 : i + 1 = j
  · rw [if_pos q1] at hj
    split at hj
    · cases hj; cases hm
    · cases hj
  · rw [if_neg q1] at hj
    rcases lset1_get hj with ⟨e1, e2⟩ | ⟨e1, e2 | ⟨e2, e3⟩⟩
    · subst e1; subst e2
      exact h'.2.2 (j, xtr ad sV u) List.mem_cons_self
    · subst e2; cases hm
    · refine h'.2.2 (j, xtr ad sV u) (List.mem_cons_of_mem _ (List.mem_filter.mpr ⟨(xlv_mem L 0 _).mpr ⟨j, u, e2, hm, by simp⟩, ?_⟩))
      simp only [Bool.and_eq_true, Bool.not_eq_true', beq_eq_false_iff_ne, ne_eq, Bool.and_eq_false_iff]
      refine ⟨e1, fun q => q1 q.symm, ?_⟩
      by_cases q : j + 1 = i
      · right
        have h3 := e3 q
        rw [xtr_cat hs]
        cases u <;> first | (show ¬ (1 = 2); omega) | (simp [isL2] at h3)
      · left; exact q
theorem xs_lstore (F : XFx p s m meth c args Rm cc own nL ini law sc mc ms A sV) {a : Nat} {x : Int64} (ha : a + 1 < nL) (hd : (pc' = pc + 1 ∧ ∃ k : Fin 4, (k : Nat) = a ∧ decode cc pc = .ok (.lstore_n k, 1)) ∨ (pc' = pc + 2 ∧ decode cc pc = .ok (.lstore a, 2)))
    (k : XW p l e Rm s m args below meth c dC dI A a0 n0 sV nL mc ms Zf pc' (lset2 L a (.long x)) st S I J r cu su) : XW p l e Rm s m args below meth c dC dI A a0 n0 sV nL mc ms Zf pc L (.long x :: st) S I J r cu su := by
  intro ls H locs ws tys h
  have go : ∀ ls', lv_has ls' nL ((a, Value.long x) :: (xlv (xadr ws) sV 0 L).filter (fun q => !(q.1 == a) && (!(q.1 == a + 1) && !(q.1 + 1 == a && q.2.category == 2)))) → W p l e Rm s m args below meth c H locs cu su Zf (F0 m pc' ls' (st.map (xtr (xadr ws) sV))) := by
    intro ls' h'
    refine k ls' H locs ws tys ⟨XLs.set2 (v := .long x) h' F.cat, h.2.1, fun u hu => ?_, ok_tl h.2.2.2.1, h.2.2.2.2⟩
    rcases List.mem_or_eq_of_mem_set hu with hu | rfl
    · rcases lset1_mem hu with rfl | rfl | hu
      · trivial
      · trivial
      · exact h.2.2.1 u hu
    · trivial
  rcases hd with ⟨rfl, f, h0, h1⟩ | ⟨rfl, h1⟩
  · exact lv_lstore_n F.1 F.2.1 h1 h0 h.1.has ha rfl go
  · exact lv_lstore F.1 F.2.1 h1 h.1.has ha rfl go
theorem xs_iinc (F : XFx p s m meth c args Rm cc own nL ini law sc mc ms A sV) {a : Nat} {x z : Int32} (hg : lget L a = .int x) (ha : a < nL) (hd : decode cc pc = .ok (.iinc a z.toInt, 3))
    (k : XW p l e Rm s m args below meth c dC dI A a0 n0 sV nL mc ms Zf (pc + 3) (lset1 L a (.int (x + z))) st S I J r cu su) : XW p l e Rm s m args below meth c dC dI A a0 n0 sV nL mc ms Zf pc L st S I J r cu su := by
  intro ls H locs ws tys h
  have hm : (a, Value.int x) ∈ xlv (xadr ws) sV 0 L := (xlv_mem L 0 _).mpr ⟨a, .int x, lget_at hg rfl, rfl, by simp [xtr]⟩
  obtain ⟨j, hj⟩ := List.getElem?_of_mem hm
  exact lv_iinc (k := j) F.1 F.2.1 hd h.1.has hj (by rw [Int32.ofInt_toInt]) ha rfl (fun ls' h' => k ls' H locs ws tys (XH.st1 (v := .int (x + z)) h h' F.cat trivial h.2.2.2.1))
theorem xs_iadd (F : XFx p s m meth c args Rm cc own nL ini law sc mc ms A sV) {x y : Int32} (hd : decode cc pc = .ok (.iadd, 1)) (k : XW p l e Rm s m args below meth c dC dI A a0 n0 sV nL mc ms Zf (pc + 1) L (.int (ibin 0 x y) :: st) S I J r cu su) : XW p l e Rm s m args below meth c dC dI A a0 n0 sV nL mc ms Zf pc L (.int y :: .int x :: st) S I J r cu su := by
  intro ls H locs ws tys h
  exact lv_iadd F.1 F.2.1 hd (k ls H locs ws tys (h.push (ok_cons trivial (ok_tl (ok_tl h.2.2.2.1)))))
theorem xs_isub (F : XFx p s m meth c args Rm cc own nL ini law sc mc ms A sV) {x y : Int32} (hd : decode cc pc = .ok (.isub, 1)) (k : XW p l e Rm s m args below meth c dC dI A a0 n0 sV nL mc ms Zf (pc + 1) L (.int (ibin 1 x y) :: st) S I J r cu su) : XW p l e Rm s m args below meth c dC dI A a0 n0 sV nL mc ms Zf pc L (.int y :: .int x :: st) S I J r cu su := by
  intro ls H locs ws tys h
  exact lv_isub F.1 F.2.1 hd (k ls H locs ws tys (h.push (ok_cons trivial (ok_tl (ok_tl h.2.2.2.1)))))
theorem xs_imul (F : XFx p s m meth c args Rm cc own nL ini law sc mc ms A sV) {x y : Int32} (hd : decode cc pc = .ok (.imul, 1)) (k : XW p l e Rm s m args below meth c dC dI A a0 n0 sV nL mc ms Zf (pc + 1) L (.int (ibin 2 x y) :: st) S I J r cu su) : XW p l e Rm s m args below meth c dC dI A a0 n0 sV nL mc ms Zf pc L (.int y :: .int x :: st) S I J r cu su := by
  intro ls H locs ws tys h
  exact lv_imul F.1 F.2.1 hd (k ls H locs ws tys (h.push (ok_cons trivial (ok_tl (ok_tl h.2.2.2.1)))))
theorem xs_iand (F : XFx p s m meth c args Rm cc own nL ini law sc mc ms A sV) {x y : Int32} (hd : decode cc pc = .ok (.iand, 1)) (k : XW p l e Rm s m args below meth c dC dI A a0 n0 sV nL mc ms Zf (pc + 1) L (.int (ibin 3 x y) :: st) S I J r cu su) : XW p l e Rm s m args below meth c dC dI A a0 n0 sV nL mc ms Zf pc L (.int y :: .int x :: st) S I J r cu su := by
  intro ls H locs ws tys h
  exact lv_iand F.1 F.2.1 hd (k ls H locs ws tys (h.push (ok_cons trivial (ok_tl (ok_tl h.2.2.2.1)))))
theorem xs_ior (F : XFx p s m meth c args Rm cc own nL ini law sc mc ms A sV) {x y : Int32} (hd : decode cc pc = .ok (.ior, 1)) (k : XW p l e Rm s m args below meth c dC dI A a0 n0 sV nL mc ms Zf (pc + 1) L (.int (ibin 4 x y) :: st) S I J r cu su) : XW p l e Rm s m args below meth c dC dI A a0 n0 sV nL mc ms Zf pc L (.int y :: .int x :: st) S I J r cu su := by
  intro ls H locs ws tys h
  exact lv_ior F.1 F.2.1 hd (k ls H locs ws tys (h.push (ok_cons trivial (ok_tl (ok_tl h.2.2.2.1)))))
theorem xs_ixor (F : XFx p s m meth c args Rm cc own nL ini law sc mc ms A sV) {x y : Int32} (hd : decode cc pc = .ok (.ixor, 1)) (k : XW p l e Rm s m args below meth c dC dI A a0 n0 sV nL mc ms Zf (pc + 1) L (.int (ibin 5 x y) :: st) S I J r cu su) : XW p l e Rm s m args below meth c dC dI A a0 n0 sV nL mc ms Zf pc L (.int y :: .int x :: st) S I J r cu su := by
  intro ls H locs ws tys h
  exact lv_ixor F.1 F.2.1 hd (k ls H locs ws tys (h.push (ok_cons trivial (ok_tl (ok_tl h.2.2.2.1)))))
theorem xs_ishl (F : XFx p s m meth c args Rm cc own nL ini law sc mc ms A sV) {x y : Int32} (hd : decode cc pc = .ok (.ishl, 1)) (k : XW p l e Rm s m args below meth c dC dI A a0 n0 sV nL mc ms Zf (pc + 1) L (.int (ibin 6 x y) :: st) S I J r cu su) : XW p l e Rm s m args below meth c dC dI A a0 n0 sV nL mc ms Zf pc L (.int y :: .int x :: st) S I J r cu su := by
  intro ls H locs ws tys h
  exact lv_ishl F.1 F.2.1 hd (k ls H locs ws tys (h.push (ok_cons trivial (ok_tl (ok_tl h.2.2.2.1)))))
theorem xs_ishr (F : XFx p s m meth c args Rm cc own nL ini law sc mc ms A sV) {x y : Int32} (hd : decode cc pc = .ok (.ishr, 1)) (k : XW p l e Rm s m args below meth c dC dI A a0 n0 sV nL mc ms Zf (pc + 1) L (.int (ibin 7 x y) :: st) S I J r cu su) : XW p l e Rm s m args below meth c dC dI A a0 n0 sV nL mc ms Zf pc L (.int y :: .int x :: st) S I J r cu su := by
  intro ls H locs ws tys h
  exact lv_ishr F.1 F.2.1 hd (k ls H locs ws tys (h.push (ok_cons trivial (ok_tl (ok_tl h.2.2.2.1)))))
theorem xs_iushr (F : XFx p s m meth c args Rm cc own nL ini law sc mc ms A sV) {x y : Int32} (hd : decode cc pc = .ok (.iushr, 1)) (k : XW p l e Rm s m args below meth c dC dI A a0 n0 sV nL mc ms Zf (pc + 1) L (.int (ibin 8 x y) :: st) S I J r cu su) : XW p l e Rm s m args below meth c dC dI A a0 n0 sV nL mc ms Zf pc L (.int y :: .int x :: st) S I J r cu su := by
  intro ls H locs ws tys h
  exact lv_iushr F.1 F.2.1 hd rfl (k ls H locs ws tys (h.push (ok_cons trivial (ok_tl (ok_tl h.2.2.2.1)))))
theorem xs_ladd (F : XFx p s m meth c args Rm cc own nL ini law sc mc ms A sV) {x y : Int64} (hd : decode cc pc = .ok (.ladd, 1)) (k : XW p l e Rm s m args below meth c dC dI A a0 n0 sV nL mc ms Zf (pc + 1) L (.long (lbin 0 x y) :: st) S I J r cu su) : XW p l e Rm s m args below meth c dC dI A a0 n0 sV nL mc ms Zf pc L (.long y :: .long x :: st) S I J r cu su := by
  intro ls H locs ws tys h
  exact lv_ladd F.1 F.2.1 hd (k ls H locs ws tys (h.push (ok_cons trivial (ok_tl (ok_tl h.2.2.2.1)))))
theorem xs_lsub (F : XFx p s m meth c args Rm cc own nL ini law sc mc ms A sV) {x y : Int64} (hd : decode cc pc = .ok (.lsub, 1)) (k : XW p l e Rm s m args below meth c dC dI A a0 n0 sV nL mc ms Zf (pc + 1) L (.long (lbin 1 x y) :: st) S I J r cu su) : XW p l e Rm s m args below meth c dC dI A a0 n0 sV nL mc ms Zf pc L (.long y :: .long x :: st) S I J r cu su := by
  intro ls H locs ws tys h
  exact lv_lsub F.1 F.2.1 hd (k ls H locs ws tys (h.push (ok_cons trivial (ok_tl (ok_tl h.2.2.2.1)))))
theorem xs_lmul (F : XFx p s m meth c args Rm cc own nL ini law sc mc ms A sV) {x y : Int64} (hd : decode cc pc = .ok (.lmul, 1)) (k : XW p l e Rm s m args below meth c dC dI A a0 n0 sV nL mc ms Zf (pc + 1) L (.long (lbin 2 x y) :: st) S I J r cu su) : XW p l e Rm s m args below meth c dC dI A a0 n0 sV nL mc ms Zf pc L (.long y :: .long x :: st) S I J r cu su := by
  intro ls H locs ws tys h
  exact lv_lmul F.1 F.2.1 hd (k ls H locs ws tys (h.push (ok_cons trivial (ok_tl (ok_tl h.2.2.2.1)))))
theorem xs_land (F : XFx p s m meth c args Rm cc own nL ini law sc mc ms A sV) {x y : Int64} (hd : decode cc pc = .ok (.land, 1)) (k : XW p l e Rm s m args below meth c dC dI A a0 n0 sV nL mc ms Zf (pc + 1) L (.long (lbin 3 x y) :: st) S I J r cu su) : XW p l e Rm s m args below meth c dC dI A a0 n0 sV nL mc ms Zf pc L (.long y :: .long x :: st) S I J r cu su := by
  intro ls H locs ws tys h
  exact lv_land F.1 F.2.1 hd (k ls H locs ws tys (h.push (ok_cons trivial (ok_tl (ok_tl h.2.2.2.1)))))
theorem xs_lor (F : XFx p s m meth c args Rm cc own nL ini law sc mc ms A sV) {x y : Int64} (hd : decode cc pc = .ok (.lor, 1)) (k : XW p l e Rm s m args below meth c dC dI A a0 n0 sV nL mc ms Zf (pc + 1) L (.long (lbin 4 x y) :: st) S I J r cu su) : XW p l e Rm s m args below meth c dC dI A a0 n0 sV nL mc ms Zf pc L (.long y :: .long x :: st) S I J r cu su := by
  intro ls H locs ws tys h
  exact lv_lor F.1 F.2.1 hd (k ls H locs ws tys (h.push (ok_cons trivial (ok_tl (ok_tl h.2.2.2.1)))))
theorem xs_idiv (F : XFx p s m meth c args Rm cc own nL ini law sc mc ms A sV) {x y : Int32} (hy : ¬ y = 0) (hd : decode cc pc = .ok (.idiv, 1)) (k : XW p l e Rm s m args below meth c dC dI A a0 n0 sV nL mc ms Zf (pc + 1) L (.int (x / y) :: st) S I J r cu su) : XW p l e Rm s m args below meth c dC dI A a0 n0 sV nL mc ms Zf pc L (.int y :: .int x :: st) S I J r cu su := by
  intro ls H locs ws tys h
  exact lv_idiv F.1 F.2.1 hd hy (k ls H locs ws tys (h.push (ok_cons trivial (ok_tl (ok_tl h.2.2.2.1)))))
theorem xs_irem (F : XFx p s m meth c args Rm cc own nL ini law sc mc ms A sV) {x y : Int32} (hy : ¬ y = 0) (hd : decode cc pc = .ok (.irem, 1)) (k : XW p l e Rm s m args below meth c dC dI A a0 n0 sV nL mc ms Zf (pc + 1) L (.int (x - x / y * y) :: st) S I J r cu su) : XW p l e Rm s m args below meth c dC dI A a0 n0 sV nL mc ms Zf pc L (.int y :: .int x :: st) S I J r cu su := by
  intro ls H locs ws tys h
  exact lv_irem F.1 F.2.1 hd hy (k ls H locs ws tys (h.push (ok_cons trivial (ok_tl (ok_tl h.2.2.2.1)))))
theorem xs_ldiv (F : XFx p s m meth c args Rm cc own nL ini law sc mc ms A sV) {x y : Int64} (hy : ¬ y = 0) (hd : decode cc pc = .ok (.ldiv, 1)) (k : XW p l e Rm s m args below meth c dC dI A a0 n0 sV nL mc ms Zf (pc + 1) L (.long (x / y) :: st) S I J r cu su) : XW p l e Rm s m args below meth c dC dI A a0 n0 sV nL mc ms Zf pc L (.long y :: .long x :: st) S I J r cu su := by
  intro ls H locs ws tys h
  exact lv_ldiv F.1 F.2.1 hd hy (k ls H locs ws tys (h.push (ok_cons trivial (ok_tl (ok_tl h.2.2.2.1)))))
theorem xs_lrem (F : XFx p s m meth c args Rm cc own nL ini law sc mc ms A sV) {x y : Int64} (hy : ¬ y = 0) (hd : decode cc pc = .ok (.lrem, 1)) (k : XW p l e Rm s m args below meth c dC dI A a0 n0 sV nL mc ms Zf (pc + 1) L (.long (x - x / y * y) :: st) S I J r cu su) : XW p l e Rm s m args below meth c dC dI A a0 n0 sV nL mc ms Zf pc L (.long y :: .long x :: st) S I J r cu su := by
  intro ls H locs ws tys h
  exact lv_lrem F.1 F.2.1 hd hy (k ls H locs ws tys (h.push (ok_cons trivial (ok_tl (ok_tl h.2.2.2.1)))))
theorem xs_lshl (F : XFx p s m meth c args Rm cc own nL ini law sc mc ms A sV) {x : Int64} {y : Int32} (hd : decode cc pc = .ok (.lshl, 1)) (k : XW p l e Rm s m args below meth c dC dI A a0 n0 sV nL mc ms Zf (pc + 1) L (.long (x <<< (y.toInt64 &&& 63)) :: st) S I J r cu su) : XW p l e Rm s m args below meth c dC dI A a0 n0 sV nL mc ms Zf pc L (.int y :: .long x :: st) S I J r cu su := by
  intro ls H locs ws tys h
  exact lv_lshl F.1 F.2.1 hd rfl (k ls H locs ws tys (h.push (ok_cons trivial (ok_tl (ok_tl h.2.2.2.1)))))
theorem xs_lcmp (F : XFx p s m meth c args Rm cc own nL ini law sc mc ms A sV) {x y : Int64} (hd : decode cc pc = .ok (.lcmp, 1)) (k : XW p l e Rm s m args below meth c dC dI A a0 n0 sV nL mc ms Zf (pc + 1) L (.int (lg_cmp x y) :: st) S I J r cu su) : XW p l e Rm s m args below meth c dC dI A a0 n0 sV nL mc ms Zf pc L (.long y :: .long x :: st) S I J r cu su := by
  intro ls H locs ws tys h
  exact W.lcmp F.1 F.2.1 hd (k ls H locs ws tys (h.push (ok_cons trivial (ok_tl (ok_tl h.2.2.2.1)))))
theorem xs_i2l (F : XFx p s m meth c args Rm cc own nL ini law sc mc ms A sV) {x : Int32} (hd : decode cc pc = .ok (.i2l, 1)) (k : XW p l e Rm s m args below meth c dC dI A a0 n0 sV nL mc ms Zf (pc + 1) L (.long (x.toInt64) :: st) S I J r cu su) : XW p l e Rm s m args below meth c dC dI A a0 n0 sV nL mc ms Zf pc L (.int x :: st) S I J r cu su := by
  intro ls H locs ws tys h
  exact lv_i2l F.1 F.2.1 hd rfl (k ls H locs ws tys (h.push (ok_cons trivial (ok_tl h.2.2.2.1))))
theorem xs_l2i (F : XFx p s m meth c args Rm cc own nL ini law sc mc ms A sV) {x : Int64} (hd : decode cc pc = .ok (.l2i, 1)) (k : XW p l e Rm s m args below meth c dC dI A a0 n0 sV nL mc ms Zf (pc + 1) L (.int (x.toInt32) :: st) S I J r cu su) : XW p l e Rm s m args below meth c dC dI A a0 n0 sV nL mc ms Zf pc L (.long x :: st) S I J r cu su := by
  intro ls H locs ws tys h
  exact lv_l2i F.1 F.2.1 hd rfl (k ls H locs ws tys (h.push (ok_cons trivial (ok_tl h.2.2.2.1))))
theorem xs_i2b (F : XFx p s m meth c args Rm cc own nL ini law sc mc ms A sV) {x : Int32} (hd : decode cc pc = .ok (.i2b, 1)) (k : XW p l e Rm s m args below meth c dC dI A a0 n0 sV nL mc ms Zf (pc + 1) L (.int (x.toInt8.toInt32) :: st) S I J r cu su) : XW p l e Rm s m args below meth c dC dI A a0 n0 sV nL mc ms Zf pc L (.int x :: st) S I J r cu su := by
  intro ls H locs ws tys h
  exact lv_i2b F.1 F.2.1 hd rfl (k ls H locs ws tys (h.push (ok_cons trivial (ok_tl h.2.2.2.1))))
theorem xs_i2s (F : XFx p s m meth c args Rm cc own nL ini law sc mc ms A sV) {x : Int32} (hd : decode cc pc = .ok (.i2s, 1)) (k : XW p l e Rm s m args below meth c dC dI A a0 n0 sV nL mc ms Zf (pc + 1) L (.int (x.toInt16.toInt32) :: st) S I J r cu su) : XW p l e Rm s m args below meth c dC dI A a0 n0 sV nL mc ms Zf pc L (.int x :: st) S I J r cu su := by
  intro ls H locs ws tys h
  exact lv_i2s F.1 F.2.1 hd rfl (k ls H locs ws tys (h.push (ok_cons trivial (ok_tl h.2.2.2.1))))
theorem xs_i2c (F : XFx p s m meth c args Rm cc own nL ini law sc mc ms A sV) {x : Int32} (hd : decode cc pc = .ok (.i2c, 1)) (k : XW p l e Rm s m args below meth c dC dI A a0 n0 sV nL mc ms Zf (pc + 1) L (.int ((x.toUInt32 % 65536).toInt32) :: st) S I J r cu su) : XW p l e Rm s m args below meth c dC dI A a0 n0 sV nL mc ms Zf pc L (.int x :: st) S I J r cu su := by
  intro ls H locs ws tys h
  exact lv_i2c F.1 F.2.1 hd rfl (k ls H locs ws tys (h.push (ok_cons trivial (ok_tl h.2.2.2.1))))
theorem xs_lneg (F : XFx p s m meth c args Rm cc own nL ini law sc mc ms A sV) {x : Int64} (hd : decode cc pc = .ok (.lneg, 1)) (k : XW p l e Rm s m args below meth c dC dI A a0 n0 sV nL mc ms Zf (pc + 1) L (.long (-x) :: st) S I J r cu su) : XW p l e Rm s m args below meth c dC dI A a0 n0 sV nL mc ms Zf pc L (.long x :: st) S I J r cu su := by
  intro ls H locs ws tys h
  exact lv_lneg F.1 F.2.1 hd (k ls H locs ws tys (h.push (ok_cons trivial (ok_tl h.2.2.2.1))))
theorem xs_ineg (F : XFx p s m meth c args Rm cc own nL ini law sc mc ms A sV) {x : Int32} (hd : decode cc pc = .ok (.ineg, 1)) (k : XW p l e Rm s m args below meth c dC dI A a0 n0 sV nL mc ms Zf (pc + 1) L (.int (-x) :: st) S I J r cu su) : XW p l e Rm s m args below meth c dC dI A a0 n0 sV nL mc ms Zf pc L (.int x :: st) S I J r cu su := by
  intro ls H locs ws tys h
  exact lv_ineg F.1 F.2.1 hd (k ls H locs ws tys (h.push (ok_cons trivial (ok_tl h.2.2.2.1))))
theorem xs_dup (F : XFx p s m meth c args Rm cc own nL ini law sc mc ms A sV) {v : Value} (hv : v.category = 1) (hd : decode cc pc = .ok (.dup, 1)) (k : XW p l e Rm s m args below meth c dC dI A a0 n0 sV nL mc ms Zf (pc + 1) L (v :: v :: st) S I J r cu su) : XW p l e Rm s m args below meth c dC dI A a0 n0 sV nL mc ms Zf pc L (v :: st) S I J r cu su := by
  intro ls H locs ws tys h
  exact lv_dup F.1 F.2.1 hd (by rw [xtr_cat F.cat]; exact hv) (k ls H locs ws tys (h.push (ok_cons (ok_hd h.2.2.2.1) h.2.2.2.1)))
theorem xs_dup2 (F : XFx p s m meth c args Rm cc own nL ini law sc mc ms A sV) {v u : Value} (hv : v.category = 1) (hu : u.category = 1) (hd : decode cc pc = .ok (.dup2, 1)) (k : XW p l e Rm s m args below meth c dC dI A a0 n0 sV nL mc ms Zf (pc + 1) L (v :: u :: v :: u :: st) S I J r cu su) : XW p l e Rm s m args below meth c dC dI A a0 n0 sV nL mc ms Zf pc L (v :: u :: st) S I J r cu su := by
  intro ls H locs ws tys h
  exact lv_dup2_11 F.1 F.2.1 hd (by rw [xtr_cat F.cat]; exact hv) (by rw [xtr_cat F.cat]; exact hu) (k ls H locs ws tys (h.push (ok_cons (ok_hd h.2.2.2.1) (ok_cons (ok_hd (ok_tl h.2.2.2.1)) h.2.2.2.1))))
theorem xs_pop (F : XFx p s m meth c args Rm cc own nL ini law sc mc ms A sV) {v : Value} (hv : v.category = 1) (hd : decode cc pc = .ok (.pop, 1)) (k : XW p l e Rm s m args below meth c dC dI A a0 n0 sV nL mc ms Zf (pc + 1) L (st) S I J r cu su) : XW p l e Rm s m args below meth c dC dI A a0 n0 sV nL mc ms Zf pc L (v :: st) S I J r cu su := by
  intro ls H locs ws tys h
  exact lv_pop F.1 F.2.1 hd (by rw [xtr_cat F.cat]; exact hv) (k ls H locs ws tys (h.push (ok_tl h.2.2.2.1)))
theorem icnd_cases {d : Nat} (h : d < 6) : d = 0 ∨ d = 1 ∨ d = 2 ∨ d = 3 ∨ d = 4 ∨ d = 5 := by omega
theorem xs_if (F : XFx p s m meth c args Rm cc own nL ini law sc mc ms A sV) {d a : Nat} {x : Int32} (hd6 : d < 6) {off : Int} (hd : decode cc pc = .ok (.ifCond (xcnd d) off, 3)) (ht : (pc : Int) + off = (a : Int)) (kt : icnd d x 0 → XW p l e Rm s m args below meth c dC dI A a0 n0 sV nL mc ms Zf a L (st) S I J r cu su) (kf : ¬ icnd d x 0 → XW p l e Rm s m args below meth c dC dI A a0 n0 sV nL mc ms Zf (pc + 3) L (st) S I J r cu su) : XW p l e Rm s m args below meth c dC dI A a0 n0 sV nL mc ms Zf pc L (.int x :: st) S I J r cu su := by
  intro ls H locs ws tys h
  have k1 := fun q => kt q ls H locs ws tys (h.push (ok_tl h.2.2.2.1))
  have k2 := fun q => kf q ls H locs ws tys (h.push (ok_tl h.2.2.2.1))
  rcases icnd_cases hd6 with rfl | rfl | rfl | rfl | rfl | rfl
  · exact lv_if_eq F.1 F.2.1 hd ht k1 k2
  · exact lv_if_ne F.1 F.2.1 hd ht k1 (fun q => k2 (fun z => z q))
  · exact lv_if_lt F.1 F.2.1 hd ht k1 k2
  · exact lv_if_ge F.1 F.2.1 hd ht k1 k2
  · exact lv_if_gt F.1 F.2.1 hd ht k1 k2
  · exact lv_if_le F.1 F.2.1 hd ht k1 k2
theorem xs_icmp (F : XFx p s m meth c args Rm cc own nL ini law sc mc ms A sV) {d a : Nat} {x y : Int32} (hd6 : d < 6) {off : Int} (hd : decode cc pc = .ok (.if_icmp (xcnd d) off, 3)) (ht : (pc : Int) + off = (a : Int)) (kt : icnd d x y → XW p l e Rm s m args below meth c dC dI A a0 n0 sV nL mc ms Zf a L (st) S I J r cu su) (kf : ¬ icnd d x y → XW p l e Rm s m args below meth c dC dI A a0 n0 sV nL mc ms Zf (pc + 3) L (st) S I J r cu su) : XW p l e Rm s m args below meth c dC dI A a0 n0 sV nL mc ms Zf pc L (.int y :: .int x :: st) S I J r cu su := by
  intro ls H locs ws tys h
  have k1 := fun q => kt q ls H locs ws tys (h.push (ok_tl (ok_tl h.2.2.2.1)))
  have k2 := fun q => kf q ls H locs ws tys (h.push (ok_tl (ok_tl h.2.2.2.1)))
  rcases icnd_cases hd6 with rfl | rfl | rfl | rfl | rfl | rfl
  · exact lv_icmp_eq F.1 F.2.1 hd ht k1 k2
  · exact lv_icmp_ne F.1 F.2.1 hd ht k1 (fun q => k2 (fun z => z q))
  · exact lv_icmp_lt F.1 F.2.1 hd ht k1 k2
  · exact lv_icmp_ge F.1 F.2.1 hd ht k1 k2
  · exact lv_icmp_gt F.1 F.2.1 hd ht k1 k2
  · exact lv_icmp_le F.1 F.2.1 hd ht k1 k2
theorem xs_goto (F : XFx p s m meth c args Rm cc own nL ini law sc mc ms A sV) {a : Nat} {off : Int} (hd : decode cc pc = .ok (.goto off, 3)) (ht : (pc : Int) + off = (a : Int)) (k : XW p l e Rm s m args below meth c dC dI A a0 n0 sV nL mc ms Zf a L (st) S I J r cu su) : XW p l e Rm s m args below meth c dC dI A a0 n0 sV nL mc ms Zf pc L (st) S I J r cu su := by
  intro ls H locs ws tys h
  exact lv_goto F.1 F.2.1 hd ht (k ls H locs ws tys h)
theorem xs_ifnull_N (F : XFx p s m meth c args Rm cc own nL ini law sc mc ms A sV) {a x : Nat} {off : Int} (hd : decode cc pc = .ok (.ifnull off, 3)) (ht : (pc : Int) + off = (a : Int)) (k : XW p l e Rm s m args below meth c dC dI A a0 n0 sV nL mc ms Zf a L (st) S I J r cu su) : XW p l e Rm s m args below meth c dC dI A a0 n0 sV nL mc ms Zf pc L (.null :: st) S I J r cu su := by
  intro ls H locs ws tys h
  exact lv_ifnullN F.1 F.2.1 hd ht (k ls H locs ws tys (h.push (ok_tl h.2.2.2.1)))
theorem xs_ifnull_R (F : XFx p s m meth c args Rm cc own nL ini law sc mc ms A sV) {a x : Nat} {off : Int} (hd : decode cc pc = .ok (.ifnull off, 3)) (ht : (pc : Int) + off = (a : Int)) (k : XW p l e Rm s m args below meth c dC dI A a0 n0 sV nL mc ms Zf (pc + 3) L (st) S I J r cu su) : XW p l e Rm s m args below meth c dC dI A a0 n0 sV nL mc ms Zf pc L (.ref x :: st) S I J r cu su := by
  intro ls H locs ws tys h
  exact lv_ifnull F.1 F.2.1 hd (k ls H locs ws tys (h.push (ok_tl h.2.2.2.1)))
theorem xs_ifnonnull_N (F : XFx p s m meth c args Rm cc own nL ini law sc mc ms A sV) {a x : Nat} {off : Int} (hd : decode cc pc = .ok (.ifnonnull off, 3)) (ht : (pc : Int) + off = (a : Int)) (k : XW p l e Rm s m args below meth c dC dI A a0 n0 sV nL mc ms Zf (pc + 3) L (st) S I J r cu su) : XW p l e Rm s m args below meth c dC dI A a0 n0 sV nL mc ms Zf pc L (.null :: st) S I J r cu su := by
  intro ls H locs ws tys h
  exact lv_ifnonnullN F.1 F.2.1 hd (k ls H locs ws tys (h.push (ok_tl h.2.2.2.1)))
theorem xs_ifnonnull_R (F : XFx p s m meth c args Rm cc own nL ini law sc mc ms A sV) {a x : Nat} {off : Int} (hd : decode cc pc = .ok (.ifnonnull off, 3)) (ht : (pc : Int) + off = (a : Int)) (k : XW p l e Rm s m args below meth c dC dI A a0 n0 sV nL mc ms Zf a L (st) S I J r cu su) : XW p l e Rm s m args below meth c dC dI A a0 n0 sV nL mc ms Zf pc L (.ref x :: st) S I J r cu su := by
  intro ls H locs ws tys h
  exact lv_ifnonnull F.1 F.2.1 hd ht (k ls H locs ws tys (h.push (ok_tl h.2.2.2.1)))
end XOps
