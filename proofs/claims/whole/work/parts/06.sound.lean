section XOps
variable {p : Program} {l : Launch} {e : Env} {Rm : Room} {s : State} {m : MethodId} {args : Array Value} {below : List Frame} {meth : Method} {c : Code} {dC : Nat → ClassId} {dI : Nat → Nat → Nat} {A : Nat → Prop} {a0 : Nat → Nat} {n0 : Nat} {sV : Nat → Value} {nL mc ms : Nat} {Zf : State → Prop} {cc : ByteArray} {own : String} {ini law : Bool} {sc : Nat × (Nat → Int32)} {K : XK} {pc pc' : Nat} {L st : XV} {S : XS} {I : XI} {J : XJ} {r : XR} {cu su : Nat}
/-! making -/
theorem xadr_app {ws : va_W} {x : Nat × va_E} {k : Nat} (h : k < ws.length) : xadr (ws ++ [x]) k = xadr ws k := by simp [xadr, List.getElem?_append_left h]
theorem xadr_appl {ws l : va_W} {k : Nat} (h : k < ws.length) : xadr (ws ++ l) k = xadr ws k := by simp [xadr, List.getElem?_append_left h]
theorem xtr_congr {ad ad' : Nat → Nat} {v : Value} (hv : xok S v) (h : ∀ k, k < S.length → ad' k = ad k) : xtr ad' sV v = xtr ad sV v := by
  cases v with
  | ref k => show Value.ref _ = Value.ref _; rw [h k hv]
  | _ => rfl
theorem map_congr {ad ad' : Nat → Nat} (hst : ∀ v ∈ st, xok S v) (h : ∀ k, k < S.length → ad' k = ad k) : st.map (xtr ad' sV) = st.map (xtr ad sV) := List.map_congr_left fun v hv => xtr_congr (hst v hv) h
theorem XLs.congr {ad ad' : Nat → Nat} {ls : Array Slot} (hL : ∀ v ∈ L, xok S v) (h : ∀ k, k < S.length → ad' k = ad k) (x : XLs ad sV nL ls L) : XLs ad' sV nL ls L :=
  ⟨x.1, x.2.1, fun i v hi hm => by rw [xtr_congr (hL v (List.mem_of_getElem? hi)) h]; exact x.2.2 i v hi hm⟩
/-- an old cell's picture, behind a making: nothing of it has changed -/
theorem xcell_congr {ad ad' : Nat → Nat} {I' : XI} {J' : XJ} {r' : XR} {cA : ClassId} {t n q : Nat} (hI : I' q = I q) (hJ : J' q = J q) (hr : r' q = r q) (hv : ∀ k v : Nat, r q k = some v → v < S.length) (h : ∀ k, k < S.length → ad' k = ad k) : xcell ad' I' J' r' cA t n q = xcell ad I J r cA t n q := by
  have e : ∀ k, (r q k).map ad' = (r q k).map ad := fun k => by
    cases hk : r q k with
    | none => rfl
    | some v => simp [h v (hv k v hk)]
  unfold xcell
  split
  · congr 2
    unfold xobj
    congr 1
    funext k
    unfold xfld
    rw [hI, hJ, hr, e k]
  · congr 2
    unfold xarr
    split <;> simp only [hI, hJ, hr, e]
theorem XRel.make {a0 : Nat → Nat} {n0 : Nat} {tys tys' : List (ClassId × FieldType)} {ws l : va_W} {S1 : XS} {I' : XI} {J' : XJ} {r' : XR} (h : XRel a0 n0 tys ws S I J r) (hl : l.length = S1.length) (ht : ∀ (k : Nat) (x : ClassId × FieldType), tys[k]? = some x → tys'[k]? = some x)
    (hI : ∀ q, q < S.length → I' q = I q) (hJ : ∀ q, q < S.length → J' q = J q) (hr : ∀ q, q < S.length → r' q = r q)
    (hc : ∀ j t n : Nat, S1[j]? = some (t, n) → ∃ cA : ClassId, l[j]? = some (xadr (ws ++ l) (S.length + j), xcell (xadr (ws ++ l)) I' J' r' cA t n (S.length + j)) ∧ (100 ≤ t → ∃ t0 : Nat, tys'[t0]? = some (cA, xaty t)))
    (hv : ∀ q k v : Nat, S.length ≤ q → r' q k = some v → v < (S ++ S1).length) (hb : ∀ j n i : Nat, S1[j]? = some (102, n) → (I' (S.length + j) i).toInt8.toInt32 = I' (S.length + j) i) : XRel a0 n0 tys' (ws ++ l) (S ++ S1) I' J' r' := by
  obtain ⟨h1, h2, h3, h4, h5, h6⟩ := h
  have had : ∀ k, k < S.length → xadr (ws ++ l) k = xadr ws k := fun k hk => xadr_appl (by omega)
  refine ⟨by simp [h1, hl], fun q t n hq => ?_, fun q k v hq => ?_, fun q n j hq => ?_, by simp; omega, fun k hk => by rw [had k (by omega)]; exact h6 k hk⟩
  · by_cases e : q < S.length
    · rw [List.getElem?_append_left e] at hq
      obtain ⟨cA, g1, g2⟩ := h2 q t n hq
      refine ⟨cA, ?_, fun h => ?_⟩
      · rw [List.getElem?_append_left (by omega), g1, had q e, xcell_congr (S := S) (hI q e) (hJ q e) (hr q e) (fun k v hv => h3 q k v hv) had]
      · obtain ⟨t0, g3⟩ := g2 h
        exact ⟨t0, ht _ _ g3⟩
    · have e2 : S.length ≤ q := by omega
      rw [List.getElem?_append_right e2] at hq
      obtain ⟨cA, g1, g2⟩ := hc _ t n hq
      have e3 : S.length + (q - S.length) = q := by omega
      rw [e3] at g1
      exact ⟨cA, by rw [List.getElem?_append_right (by omega), h1]; exact g1, g2⟩
  · by_cases e : q < S.length
    · rw [hr q e] at hq
      have := h3 q k v hq
      simp; omega
    · exact hv q k v (by omega) hq
  · by_cases e : q < S.length
    · rw [List.getElem?_append_left e] at hq
      rw [hI q e]
      exact h4 q n j hq
    · have e2 : S.length ≤ q := by omega
      rw [List.getElem?_append_right e2] at hq
      have e3 : S.length + (q - S.length) = q := by omega
      have := hb _ n j hq
      rw [e3] at this
      exact this
theorem ok_app {S1 : XS} {u : XV} (h : ∀ v ∈ u, xok S v) : ∀ v ∈ u, xok (S ++ S1) v := fun v hv => xok_mono (by simp) (h v hv)
theorem xnew0 {α : Type} {f : Nat → Nat → α} {z : α} {q n : Nat} (h : q < n) : (fun q k => if q = n then z else f q k : Nat → Nat → α) q = f q := by funext k; simp; omega
/-- one new cell -/
theorem xs_make1 {t n a1 : Nat} {cA : ClassId} {e1 : va_E} {ls : Array Slot} {H H1 : Heap} {locs locs1 : List Loc} {ws : va_W} {tys tys' : List (ClassId × FieldType)} {st' : XV} {cu' su' : Nat} (h : XH dC dI A s a0 n0 sV nL mc ms ls H locs ws tys L st S I J r cu su)
    (ht : ∀ (k : Nat) (x : ClassId × FieldType), tys[k]? = some x → tys'[k]? = some x) (hK : va_K (dC, dI) xcl tys' s) (hP : va_P (dC, dI) xcl (ws ++ [(a1, e1)]) H1) (hD : va_D A (ws ++ [(a1, e1)])) (hS : va_S A s.heap H1 locs1)
    (he : ∀ ad, e1 = xcell ad (fun q k => if q = S.length then 0 else I q k) (fun q k => if q = S.length then 0 else J q k) (fun q k => if q = S.length then none else r q k) cA t n S.length) (hty : 100 ≤ t → ∃ t0 : Nat, tys'[t0]? = some (cA, xaty t)) (hst : ∀ v ∈ st', xok S v) (hcu : cu' ≤ mc) (hsu : su' ≤ ms) :
    XH dC dI A s a0 n0 sV nL mc ms ls H1 locs1 (ws ++ [(a1, e1)]) tys' L (.ref S.length :: st') (S ++ [(t, n)]) (fun q k => if q = S.length then 0 else I q k) (fun q k => if q = S.length then 0 else J q k) (fun q k => if q = S.length then none else r q k) cu' su' ∧ (Value.ref S.length :: st').map (xtr (xadr (ws ++ [(a1, e1)])) sV) = .ref a1 :: st'.map (xtr (xadr ws) sV) := by
  have hlen : ws.length = S.length := h.2.1.2.2.2.2.1
  have had : ∀ k, k < S.length → xadr (ws ++ [(a1, e1)]) k = xadr ws k := fun k hk => xadr_appl (by omega)
  have hnew : xadr (ws ++ [(a1, e1)]) S.length = a1 := by rw [← hlen]; simp [xadr]
  refine ⟨⟨h.1.congr h.2.2.1 had, ⟨hK, hP, hD, hS, ?_⟩, ok_app h.2.2.1, ok_cons (by show S.length < _; simp) (ok_app hst), hcu, hsu⟩, ?_⟩
  · refine h.2.1.2.2.2.2.make (by simp) ht (fun q hq => xnew0 hq) (fun q hq => xnew0 hq) (fun q hq => xnew0 hq) (fun j t' n' hj => ?_) (fun q k v hq hr => ?_) (fun j n' i hj => ?_)
    · cases j with
      | zero =>
        simp at hj
        obtain ⟨rfl, rfl⟩ := hj
        refine ⟨cA, ?_, hty⟩
        show some (a1, e1) = some (xadr (ws ++ [(a1, e1)]) S.length, _)
        rw [hnew]
        exact congrArg (fun z => some (a1, z)) (he (xadr (ws ++ [(a1, e1)])))
      | succ j => simp at hj
    · by_cases e : q = S.length
      · simp [e] at hr
      · simp [e] at hr
        have := h.2.1.2.2.2.2.2.2.1 q k v hr
        simp; omega
    · cases j with
      | zero => simp
      | succ j => simp at hj
  · rw [List.map_cons, map_congr hst had]
    show Value.ref _ :: _ = _
    rw [hnew]
theorem tys_app {tys : List (ClassId × FieldType)} {y : ClassId × FieldType} : ∀ (k : Nat) (x : ClassId × FieldType), tys[k]? = some x → (tys ++ [y])[k]? = some x := fun k x h => by
  rw [List.getElem?_append_left (List.getElem?_eq_some_iff.mp h).1]; exact h
theorem tys_new {tys : List (ClassId × FieldType)} {y : ClassId × FieldType} : (tys ++ [y])[tys.length]? = some y := by simp
def xkdOk (b : Nat) : Bool := (List.range (nfc b)).all fun k => decide (xkof (xty b k) < 3)
theorem xkd_all : ∀ b, b < 11 → xkdOk b = true := by decide +kernel
theorem xkd_ok {b k : Nat} (h : b < 11) (hk : k < nfc b) : xkof (xty b k) < 3 := of_decide_eq_true (List.all_eq_true.mp (xkd_all b h) k (List.mem_range.mpr hk))
theorem xs_new (F : XFx p s m meth c args Rm cc own nL ini law sc mc ms A sV) {a b : Nat} (hb : b < 11) (hcl : Cond.classLink own a (xC b).1 ∈ xW) (hin : Cond.instantiable (xC b).1 (xC b).2.2 ∈ xW) (hini : Cond.initialized (xC b).1 ∈ xW) (hd : decode cc pc = .ok (.new a, 3)) (h1 : cu + 1 ≤ mc) (h2 : su + nfc b ≤ ms)
    (k : XW p l e Rm s m args below meth c dC dI A a0 n0 sV nL mc ms Zf (pc + 3) L (.ref S.length :: st) (S ++ [(b, 0)]) (fun q k => if q = S.length then 0 else I q k) (fun q k => if q = S.length then 0 else J q k) (fun q k => if q = S.length then none else r q k) (cu + 1) (su + nfc b)) : XW p l e Rm s m args below meth c dC dI A a0 n0 sV nL mc ms Zf pc L st S I J r cu su := by
  intro ls H locs ws tys h
  have hF := F
  obtain ⟨hx, hbb, -, hown, hts, -, hA, -, -, -, -, hmc, hms⟩ := hF
  have e0 : ∀ ad, (Sum.inr (b, (List.range (nfc b)).map (fun k => defaultValue (xty b k))) : va_E) = xcell ad (fun q k => if q = S.length then 0 else I q k) (fun q k => if q = S.length then 0 else J q k) (fun q k => if q = S.length then none else r q k) 0 b 0 S.length := by
    intro ad
    rw [xcell_obj hb]
    congr 2
    unfold xobj
    apply List.map_congr_left
    intro k hk
    have h3 := (xcls_one hb (List.mem_range.mp hk)).2.2.1
    unfold xfld
    rw [← h3]
    have hbad : xkof (xty b k) ≠ 9 := by
      have := xkd_ok hb (List.mem_range.mp hk)
      omega
    cases hx : xty b k <;> first | (simp [xkof, defaultValue, va_rf]; done) | (rw [hx] at hbad; exact absurd rfl hbad)
  refine va_new (ci := b) (fs := (List.range (nfc b)).map (fun k => defaultValue (xty b k))) hx hbb hts (xlay_in hb) (xty b) (fun j hj => (xcls_one hb (by rw [xC_n hb] at hj; exact hj)).2.1) hown (hts _ hcl) (hts _ hin) (hts _ hini) h.2.1.1 h.2.1.2.1 h.2.1.2.2.1 h.2.1.2.2.2.1 hA (xC_at hb) (fun j hj => ?_) (by omega) (by rw [xC_n hb]; omega) hd (fun q H1 hP1 hD1 hS1 => ?_)
  · rw [xC_n hb] at hj
    simp [vp_V, List.getD_eq_getElem?_getD, List.getElem?_range hj]
  · obtain ⟨x1, x2⟩ := xs_make1 (st' := st) (cu' := cu + 1) (su' := su + nfc b) h (fun _ _ h => h) h.2.1.1 hP1 hD1 hS1 e0 (fun h => by omega) h.2.2.2.1 h1 h2
    have k1 := k ls H1 locs _ tys x1
    rw [x2] at k1
    rw [xC_n hb]
    exact k1
theorem xs_newa (F : XFx p s m meth c args Rm cc own nL ini law sc mc ms A sV) {b : Nat} {n : Int32} {atype : ArrayType} (hty : newarray.typeOf atype = xaty b) (hb : b = 100 ∨ b = 101 ∨ b = 102) (harr : Cond.arrayClass (newarray.typeOf atype) ∈ xW) (hd : decode cc pc = .ok (.newarray atype, 2)) (hn : 0 ≤ n) (hn4 : n.toNatClampNeg ≤ 4000) (h1 : cu + 1 ≤ mc) (h2 : su + n.toNatClampNeg ≤ ms)
    (k : XW p l e Rm s m args below meth c dC dI A a0 n0 sV nL mc ms Zf (pc + 2) L (.ref S.length :: st) (S ++ [(b, n.toNatClampNeg)]) (fun q k => if q = S.length then 0 else I q k) (fun q k => if q = S.length then 0 else J q k) (fun q k => if q = S.length then none else r q k) (cu + 1) (su + n.toNatClampNeg)) : XW p l e Rm s m args below meth c dC dI A a0 n0 sV nL mc ms Zf pc L (.int n :: st) S I J r cu su := by
  intro ls H locs ws tys h
  have hF := F
  obtain ⟨hx, hbb, -, hown, hts, -, hA, -, -, -, -, hmc, hms⟩ := hF
  have hcb : componentBytes (xaty b) ≤ 8 := by rcases hb with rfl | rfl | rfl <;> decide
  refine va_newa (a0 := xarr (fun _ => 0) (fun q k => if q = S.length then 0 else I q k) (fun q k => if q = S.length then 0 else J q k) (fun q k => if q = S.length then none else r q k) b n.toNatClampNeg S.length) hx hbb (hts _ harr) hty h.2.1.1 h.2.1.2.1 h.2.1.2.2.1 h.2.1.2.2.2.1 hA (fun cA => ?_) (Int32.not_lt.mpr hn) rfl (Nat.le_trans (Nat.mul_le_mul hn4 hcb) (by decide)) (by omega) (by omega) hd (fun q cA H1 hK1 hP1 hD1 hS1 => ?_)
  · rcases hb with rfl | rfl | rfl
    · simp [xarr, vp_cell, xaty, defaultValue]
    · simp [xarr, vp_cell, xaty, defaultValue]
    · simp [xarr, vp_cell, xaty, defaultValue]
  · obtain ⟨x1, x2⟩ := xs_make1 (t := b) (n := n.toNatClampNeg) (cA := cA) (st' := st) (cu' := cu + 1) (su' := su + n.toNatClampNeg) h tys_app hK1 hP1 hD1 hS1 (fun ad => by rcases hb with rfl | rfl | rfl <;> rfl) (fun _ => ⟨_, tys_new⟩) (ok_tl h.2.2.2.1) h1 h2
    have k1 := k ls H1 locs _ _ x1
    rw [x2] at k1
    exact k1
theorem xs_anewa (F : XFx p s m meth c args Rm cc own nL ini law sc mc ms A sV) {a : Nat} {n : Int32} (hcl : Cond.classLink own a "FreckleChart$Coast" ∈ xW) (hd : decode cc pc = .ok (.anewarray a, 3)) (hn : 0 ≤ n) (hn4 : n.toNatClampNeg ≤ 4000) (h1 : cu + 1 ≤ mc) (h2 : su + n.toNatClampNeg ≤ ms)
    (k : XW p l e Rm s m args below meth c dC dI A a0 n0 sV nL mc ms Zf (pc + 3) L (.ref S.length :: st) (S ++ [(103, n.toNatClampNeg)]) (fun q k => if q = S.length then 0 else I q k) (fun q k => if q = S.length then 0 else J q k) (fun q k => if q = S.length then none else r q k) (cu + 1) (su + n.toNatClampNeg)) : XW p l e Rm s m args below meth c dC dI A a0 n0 sV nL mc ms Zf pc L (.int n :: st) S I J r cu su := by
  intro ls H locs ws tys h
  have hF := F
  obtain ⟨hx, hbb, -, hown, hts, -, hA, -, -, -, -, hmc, hms⟩ := hF
  refine va_newq hx hbb hown (hts _ hcl) F.2.2.2.2.2.2.2.1.2.2.2.2.1 h.2.1.1 h.2.1.2.1 h.2.1.2.2.1 h.2.1.2.2.2.1 hA (Int32.not_lt.mpr hn) rfl (by omega) (by omega) (by omega) hd (fun q cA H1 hK1 hP1 hD1 hS1 => ?_)
  obtain ⟨x1, x2⟩ := xs_make1 (t := 103) (n := n.toNatClampNeg) (cA := cA) (st' := st) (cu' := cu + 1) (su' := su + n.toNatClampNeg) h tys_app hK1 hP1 hD1 hS1 (fun ad => by
    show _ = (Sum.inl (cA, n.toNatClampNeg, .inr (.inr (.inr (.inr (fun j => ((if S.length = S.length then none else r S.length j) : Option Nat).map ad))))) : va_E)
    simp) (fun _ => ⟨_, tys_new⟩) (ok_tl h.2.2.2.1) h1 h2
  have k1 := k ls H1 locs _ _ x1
  rw [x2] at k1
  exact k1
theorem xs_objInit (F : XFx p s m meth c args Rm cc own nL ini law sc mc ms A sV) {a q : Nat} (hl : Cond.methodLink own a Lib.objectInit ∈ xW) (hi : Cond.instanceMethod Lib.objectInit ∈ xW) (hc : Cond.code Lib.objectInit ⟨#[0xb1]⟩ 1 none ∈ xW) (hd : decode cc pc = .ok (.invokespecial a, 3)) (hs8 : xsz st ≤ 8)
    (k : XW p l e Rm s m args below meth c dC dI A a0 n0 sV nL mc ms Zf (pc + 3) L st S I J r cu su) : XW p l e Rm s m args below meth c dC dI A a0 n0 sV nL mc ms Zf pc L (.ref q :: st) S I J r cu su := by
  intro ls H locs ws tys h
  have hF := F
  obtain ⟨hx, hbb, hml, hown, hts, -, hA, -, -, hfr, hlo, hmc, hms⟩ := hF
  have h8 := xsz_sum (ad := xadr ws) F.cat st
  have hr9 : 2 * (F0 m pc ls (st.map (xtr (xadr ws) sV))).monitorRoom + ((st.map (xtr (xadr ws) sV)).map fun v => v.category).sum ≤ 8 := lv_room (by omega)
  exact W.objInit hx hbb hown (hts _ hl) (hts _ hi) (hts _ hc) rfl (by rw [hml]; exact h.1.1) rfl hd hfr (Nat.le_trans (Nat.add_le_add_right hr9 12) (by omega)) (k ls H locs ws tys (h.push (ok_tl h.2.2.2.1)))
theorem cp2_self {α : Type} {f : Nat → Nat → α} {q0 sp q1 dp n : Nat} : cp2 f q0 sp q1 dp n q1 = va_cpy (f q0) (f q1) sp dp n := by funext y; simp [cp2, va_cpy]
theorem cp2_ne {α : Type} {f : Nat → Nat → α} {q0 sp q1 dp n p : Nat} (h : p ≠ q1) : cp2 f q0 sp q1 dp n p = f p := by funext y; simp [cp2, h]
theorem fits_byte {x : Int32} (h : x.toInt8.toInt32 = x) : fits .byte (.int x) = true := by
  have h1 : x.toInt = x.toInt8.toInt := by
    conv => lhs; rw [← h]
    exact Int8.toInt_toInt32 _
  have h2 := Int8.le_toInt x.toInt8
  have h3 := Int8.toInt_lt x.toInt8
  simp only [fits, Bool.and_eq_true, decide_eq_true_eq]
  constructor
  · rw [Int32.le_iff_toInt_le]
    have e : (-128 : Int32).toInt = -128 := by decide
    rw [e]; omega
  · rw [Int32.le_iff_toInt_le]
    have e : (127 : Int32).toInt = 127 := by decide
    rw [e]; omega
theorem xs_copy (F : XFx p s m meth c args Rm cc own nL ini law sc mc ms A sV) {a d q0 q1 n0' n1' : Nat} {sp dp n : Int32} (hd3 : d < 3) (hl : Cond.methodLink own a arraycopyName ∈ xW) (hnat : Cond.native arraycopyName ∈ xW) (hst : Cond.static arraycopyName ∈ xW) (hini : Cond.initialized "java/lang/System" ∈ xW) (hd : decode cc pc = .ok (.invokestatic a, 3)) (hs8 : xsz st ≤ 8)
    (h0 : S[q0]? = some (100 + d, n0')) (h1 : S[q1]? = some (100 + d, n1')) (hsp : 0 ≤ sp) (hdp : 0 ≤ dp) (hn : 0 ≤ n) (hb0 : sp.toNatClampNeg + n.toNatClampNeg ≤ n0') (hb1 : dp.toNatClampNeg + n.toNatClampNeg ≤ n1')
    (k : XW p l e Rm s m args below meth c dC dI A a0 n0 sV nL mc ms Zf (pc + 3) L st S (if d = 1 then I else cp2 I q0 sp.toNatClampNeg q1 dp.toNatClampNeg n.toNatClampNeg) (if d = 1 then cp2 J q0 sp.toNatClampNeg q1 dp.toNatClampNeg n.toNatClampNeg else J) r cu su) : XW p l e Rm s m args below meth c dC dI A a0 n0 sV nL mc ms Zf pc L (.int n :: .int dp :: .ref q1 :: .int sp :: .ref q0 :: st) S I J r cu su := by
  intro ls H locs ws tys h
  have hF := F
  obtain ⟨hx, hbb, hml, hown, hts, -, hA, -, -, hfr, hlo, hmc, hms⟩ := hF
  have h8 := xsz_sum (ad := xadr ws) F.cat st
  have hw : ((st.map (xtr (xadr ws) sV)).map fun v => v.category).sum + (nativeFrameWords "java/lang/System" "arraycopy" 5 + 11) ≤ Rm.locals := by
    have e9 : nativeFrameWords "java/lang/System" "arraycopy" 5 ≤ 21 := by decide
    omega
  have hR := h.2.1.2.2.2.2
  obtain ⟨c0, g0, f0⟩ := hR.at h0
  obtain ⟨t0, f0⟩ := f0 (by omega)
  obtain ⟨c1, g1, f1⟩ := hR.at h1
  have f1' := f1
  obtain ⟨t1, f1⟩ := f1 (by omega)
  have hst5 := ok_tl (ok_tl (ok_tl (ok_tl (ok_tl h.2.2.2.1))))
  rcases (show d = 0 ∨ d = 1 ∨ d = 2 by omega) with rfl | rfl | rfl
  · refine va_copyi (ty := .int) hx hbb (by rw [hml]; exact h.1.1.symm) hown (hts _ hl) (hts _ hnat) (hts _ hst) (hts _ hini) h.2.1.1 h.2.1.2.1 h.2.1.2.2.1 h.2.1.2.2.2.1 q0 q1 t0 t1 g0 g1 f0 f1 rfl (Int32.not_lt.mpr hsp) (Int32.not_lt.mpr hdp) (Int32.not_lt.mpr hn) hb0 hb1 (fun i _ => rfl) hfr hw hd (fun H1 locs1 hP1 hD1 hS1 => ?_)
    obtain ⟨x1, x2⟩ := XH.mem (I' := cp2 I q0 sp.toNatClampNeg q1 dp.toNatClampNeg n.toNatClampNeg) (J' := J) (r' := r) h h1 g1 f1' (by show _ = (Sum.inl (c1, n1', .inl (cp2 I q0 _ q1 _ _ q1)) : va_E); rw [cp2_self]) hP1 hD1 hS1 (fun p hp => cp2_ne hp) (fun _ _ => rfl) (fun _ _ => rfl) (fun k v hv => hR.2.2.1 q1 k v hv) (fun e => by omega) hst5
    have k1 := k ls H1 locs1 _ tys x1
    rw [x2] at k1
    exact k1
  · refine va_copyl (ty := .long) hx hbb (by rw [hml]; exact h.1.1.symm) hown (hts _ hl) (hts _ hnat) (hts _ hst) (hts _ hini) h.2.1.1 h.2.1.2.1 h.2.1.2.2.1 h.2.1.2.2.2.1 q0 q1 t0 t1 g0 g1 f0 f1 rfl (Int32.not_lt.mpr hsp) (Int32.not_lt.mpr hdp) (Int32.not_lt.mpr hn) hb0 hb1 (fun i _ => rfl) hfr hw hd (fun H1 locs1 hP1 hD1 hS1 => ?_)
    obtain ⟨x1, x2⟩ := XH.mem (I' := I) (J' := cp2 J q0 sp.toNatClampNeg q1 dp.toNatClampNeg n.toNatClampNeg) (r' := r) h h1 g1 f1' (by show _ = (Sum.inl (c1, n1', .inr (.inl (cp2 J q0 _ q1 _ _ q1))) : va_E); rw [cp2_self]) hP1 hD1 hS1 (fun _ _ => rfl) (fun p hp => cp2_ne hp) (fun _ _ => rfl) (fun k v hv => hR.2.2.1 q1 k v hv) (fun e => by omega) hst5
    have k1 := k ls H1 locs1 _ tys x1
    rw [x2] at k1
    exact k1
  · refine va_copyi (ty := .byte) hx hbb (by rw [hml]; exact h.1.1.symm) hown (hts _ hl) (hts _ hnat) (hts _ hst) (hts _ hini) h.2.1.1 h.2.1.2.1 h.2.1.2.2.1 h.2.1.2.2.2.1 q0 q1 t0 t1 g0 g1 f0 f1 rfl (Int32.not_lt.mpr hsp) (Int32.not_lt.mpr hdp) (Int32.not_lt.mpr hn) hb0 hb1 (fun i _ => fits_byte (hR.2.2.2.1 q0 n0' _ h0)) hfr hw hd (fun H1 locs1 hP1 hD1 hS1 => ?_)
    obtain ⟨x1, x2⟩ := XH.mem (I' := cp2 I q0 sp.toNatClampNeg q1 dp.toNatClampNeg n.toNatClampNeg) (J' := J) (r' := r) h h1 g1 f1' (by show _ = (Sum.inl (c1, n1', .inl (cp2 I q0 _ q1 _ _ q1)) : va_E); rw [cp2_self]) hP1 hD1 hS1 (fun p hp => cp2_ne hp) (fun _ _ => rfl) (fun _ _ => rfl) (fun k v hv => hR.2.2.1 q1 k v hv) (fun _ j => by
      rw [cp2_self]
      unfold va_cpy
      split
      · exact hR.2.2.2.1 q0 n0' _ h0
      · exact hR.2.2.2.1 q1 n1' _ h1) hst5
    have k1 := k ls H1 locs1 _ tys x1
    rw [x2] at k1
    exact k1
end XOps
