section XOps
variable {p : Program} {l : Launch} {e : Env} {Rm : Room} {s : State} {m : MethodId} {args : Array Value} {below : List Frame} {meth : Method} {c : Code} {dC : Nat → ClassId} {dI : Nat → Nat → Nat} {A : Nat → Prop} {a0 : Nat → Nat} {n0 : Nat} {sV : Nat → Value} {nL mc ms : Nat} {Zf : State → Prop} {cc : ByteArray} {own : String} {ini law : Bool} {sc : Nat × (Nat → Int32)} {K : XK} {pc pc' : Nat} {L st : XV} {S : XS} {I : XI} {J : XJ} {r : XR} {cu su : Nat}
/-! ===== the tables, decided ===== -/
theorem lt11 {b : Nat} (h : b < 11) : b = 0 ∨ b = 1 ∨ b = 2 ∨ b = 3 ∨ b = 4 ∨ b = 5 ∨ b = 6 ∨ b = 7 ∨ b = 8 ∨ b = 9 ∨ b = 10 := by omega
theorem xC_at {b : Nat} (h : b < 11) : xcl[b]? = some ((xC b).1, (xC b).2.1, (xC b).2.2) := by
  rcases lt11 h with rfl | rfl | rfl | rfl | rfl | rfl | rfl | rfl | rfl | rfl | rfl <;> rfl
theorem xC_n {b : Nat} (h : b < 11) : (xC b).2.2 = nfc b := by
  rcases lt11 h with rfl | rfl | rfl | rfl | rfl | rfl | rfl | rfl | rfl | rfl | rfl <;> rfl
def xkof : FieldType → Nat
  | .long => 1
  | .object _ => 2
  | .array _ => 2
  | .int => 0
  | .boolean => 0
  | _ => 9
def xclsOk (b : Nat) : Bool := (List.range (nfc b)).all fun k => xw ((xlyl.getD b []).getD k 0) (u_lay (xC b).1 (xC b).2.1 k) && decide (parseFieldDescriptor ((xC b).2.1 k).2.2.1 = some (xty b k)) && decide (xkof (xty b k) = xkd b k) && (List.range (nfc b)).all fun j => decide (k = j) || decide (((xC b).2.1 k).2.1 ≠ ((xC b).2.1 j).2.1)
theorem xcls_all : ∀ b, b < 11 → xclsOk b = true := by decide +kernel
theorem xcls_one {b k : Nat} (h : b < 11) (hk : k < nfc b) : xw ((xlyl.getD b []).getD k 0) (u_lay (xC b).1 (xC b).2.1 k) = true ∧ parseFieldDescriptor ((xC b).2.1 k).2.2.1 = some (xty b k) ∧ xkof (xty b k) = xkd b k ∧ ∀ j, j < nfc b → k ≠ j → ((xC b).2.1 k).2.1 ≠ ((xC b).2.1 j).2.1 := by
  have h1 := List.all_eq_true.mp (xcls_all b h) k (List.mem_range.mpr hk)
  simp only [Bool.and_eq_true, decide_eq_true_eq] at h1
  refine ⟨h1.1.1.1, h1.1.1.2, h1.1.2, fun j hj hne => ?_⟩
  have h2 := List.all_eq_true.mp h1.2 j (List.mem_range.mpr hj)
  rcases Bool.or_eq_true_iff.mp h2 with q | q
  · exact absurd (of_decide_eq_true q) hne
  · exact of_decide_eq_true q
theorem xlay_in {b : Nat} (h : b < 11) : ∀ w ∈ u_ws (xC b).1 (xC b).2.1 (xC b).2.2, w ∈ xW := by
  intro w hw
  rw [xC_n h] at hw
  obtain ⟨k, hk, rfl⟩ := List.mem_map.mp hw
  exact xw_in (xcls_one h (List.mem_range.mp hk)).1
theorem xobj_get {ad : Nat → Nat} {I : XI} {J : XJ} {r : XR} {t q k : Nat} (h : k < nfc t) : (xobj ad I J r t q)[k]? = some (xfld ad I J r t q k) := by
  simp [xobj, List.getElem?_map, List.getElem?_range h]
theorem xobj_len {ad : Nat → Nat} {I : XI} {J : XJ} {r : XR} {t q : Nat} : (xobj ad I J r t q).length = nfc t := by simp [xobj]
theorem xobj_set {ad : Nat → Nat} {I I' : XI} {J J' : XJ} {r r' : XR} {t q k : Nat} {v : Value} (hv : xfld ad I' J' r' t q k = v) (hne : ∀ j, j ≠ k → xfld ad I' J' r' t q j = xfld ad I J r t q j) : (xobj ad I J r t q).set k v = xobj ad I' J' r' t q := by
  apply List.ext_getElem?
  intro j
  rw [List.getElem?_set]
  by_cases hk : k < nfc t
  · by_cases e : k = j
    · subst e
      rw [if_pos rfl, xobj_len, if_pos hk, xobj_get hk, hv]
    · rw [if_neg e]
      simp only [xobj, List.getElem?_map]
      cases h : (List.range (nfc t))[j]? with
      | none => rfl
      | some i =>
        have : i = j := by
          obtain ⟨h1, h2⟩ := List.getElem?_eq_some_iff.mp h
          simpa using h2.symm
        subst this
        simp [hne i (Ne.symm e)]
  · by_cases e : k = j
    · subst e
      rw [if_pos rfl, xobj_len, if_neg hk]
      symm
      rw [List.getElem?_eq_none_iff, xobj_len]
      omega
    · rw [if_neg e]
      simp only [xobj, List.getElem?_map]
      cases h : (List.range (nfc t))[j]? with
      | none => rfl
      | some i =>
        have : i = j := by
          obtain ⟨h1, h2⟩ := List.getElem?_eq_some_iff.mp h
          simpa using h2.symm
        subst this
        simp [hne i (Ne.symm e)]
theorem xcell_obj {ad : Nat → Nat} {I : XI} {J : XJ} {r : XR} {cA : ClassId} {b n q : Nat} (h : b < 11) : xcell ad I J r cA b n q = .inr (b, xobj ad I J r b q) := if_pos (by omega)
/-- behind a write: the picture of the new memory -/
theorem XH.mem {ls : Array Slot} {H H1 : Heap} {locs locs1 : List Loc} {ws : va_W} {tys : List (ClassId × FieldType)} {st' : XV} (h : XH dC dI A s a0 n0 sV nL mc ms ls H locs ws tys L st S I J r cu su) {q t n : Nat} (hq : S[q]? = some (t, n)) {cA : ClassId} (hc : ws[q]? = some (xadr ws q, xcell (xadr ws) I J r cA t n q)) (hty : 100 ≤ t → ∃ t0 : Nat, tys[t0]? = some (cA, xaty t))
    {I' : XI} {J' : XJ} {r' : XR} {e' : va_E} (he : e' = xcell (xadr ws) I' J' r' cA t n q) (hP1 : va_P (dC, dI) xcl (ws.set q (xadr ws q, e')) H1) (hD1 : va_D A (ws.set q (xadr ws q, e'))) (hS1 : va_S A s.heap H1 locs1)
    (hI : ∀ p, p ≠ q → I' p = I p) (hJ : ∀ p, p ≠ q → J' p = J p) (hr : ∀ p, p ≠ q → r' p = r p) (hv : ∀ k v : Nat, r' q k = some v → v < S.length) (hb : t = 102 → ∀ j, (I' q j).toInt8.toInt32 = I' q j) (hst : ∀ v ∈ st', xok S v) :
    XH dC dI A s a0 n0 sV nL mc ms ls H1 locs1 (ws.set q (xadr ws q, e')) tys L st' S I' J' r' cu su ∧ xadr (ws.set q (xadr ws q, e')) = xadr ws := by
  subst he
  have had := xadr_set (e := xcell (xadr ws) I' J' r' cA t n q) hc
  obtain ⟨h1, ⟨h2, h3, h4, h5, h6⟩, h7, h8, h9⟩ := h
  exact ⟨⟨by rw [had]; exact h1, ⟨h2, hP1, hD1, hS1, h6.set hq hc hty hI hJ hr hv hb⟩, h7, hst, h9⟩, had⟩
theorem xs_getI (F : XFx p s m meth c args Rm cc own nL ini law sc mc ms A sV) {q b d a : Nat} (hb : b < 11) (hk : d < nfc b) (hk0 : xkd b d = 0) (hl : Cond.fieldLink own a ((xC b).2.1 d).1 ((xC b).2.1 d).2.1 ((xC b).2.1 d).2.2.1 ∈ xW) (hd : decode cc pc = .ok (.getfield a, 3)) (hS : S[q]? = some (b, 0))
    (k : XW p l e Rm s m args below meth c dC dI A a0 n0 sV nL mc ms Zf (pc + 3) L (.int (I q d) :: st) S I J r cu su) : XW p l e Rm s m args below meth c dC dI A a0 n0 sV nL mc ms Zf pc L (.ref q :: st) S I J r cu su := by
  intro ls H locs ws tys h
  obtain ⟨cA, g1, -⟩ := h.2.1.2.2.2.2.at hS
  rw [xcell_obj hb] at g1
  have hv := xobj_get (ad := xadr ws) (I := I) (J := J) (r := r) (t := b) (q := q) hk
  have e1 : xfld (xadr ws) I J r b q d = .int (I q d) := by unfold xfld; rw [hk0]; rfl
  rw [e1] at hv
  exact va_get F.1 F.2.1 F.2.2.2.2.1 (xlay_in hb) F.2.2.2.1 h.2.1.1 h.2.1.2.1 q g1 (xC_at hb) d (by rw [xC_n hb]; exact hk) (F.2.2.2.2.1 _ hl) (fun _ h => h) hv hd (k ls H locs ws tys (h.push (ok_cons trivial (ok_tl h.2.2.2.1))))
theorem xs_getJ (F : XFx p s m meth c args Rm cc own nL ini law sc mc ms A sV) {q b d a : Nat} (hb : b < 11) (hk : d < nfc b) (hk0 : xkd b d = 1) (hl : Cond.fieldLink own a ((xC b).2.1 d).1 ((xC b).2.1 d).2.1 ((xC b).2.1 d).2.2.1 ∈ xW) (hd : decode cc pc = .ok (.getfield a, 3)) (hS : S[q]? = some (b, 0))
    (k : XW p l e Rm s m args below meth c dC dI A a0 n0 sV nL mc ms Zf (pc + 3) L (.long (J q d) :: st) S I J r cu su) : XW p l e Rm s m args below meth c dC dI A a0 n0 sV nL mc ms Zf pc L (.ref q :: st) S I J r cu su := by
  intro ls H locs ws tys h
  obtain ⟨cA, g1, -⟩ := h.2.1.2.2.2.2.at hS
  rw [xcell_obj hb] at g1
  have hv := xobj_get (ad := xadr ws) (I := I) (J := J) (r := r) (t := b) (q := q) hk
  have e1 : xfld (xadr ws) I J r b q d = .long (J q d) := by unfold xfld; rw [hk0]; rfl
  rw [e1] at hv
  exact va_get F.1 F.2.1 F.2.2.2.2.1 (xlay_in hb) F.2.2.2.1 h.2.1.1 h.2.1.2.1 q g1 (xC_at hb) d (by rw [xC_n hb]; exact hk) (F.2.2.2.2.1 _ hl) (fun _ h => h) hv hd (k ls H locs ws tys (h.push (ok_cons trivial (ok_tl h.2.2.2.1))))
theorem ok_rf {a0 : Nat → Nat} {n0 : Nat} {tys : List (ClassId × FieldType)} {ws : va_W} (h : XRel a0 n0 tys ws S I J r) (q k : Nat) : xok S (va_rf (r q k)) := by
  cases hv : r q k with
  | none => trivial
  | some v => exact h.2.2.1 q k v hv
theorem xs_getR (F : XFx p s m meth c args Rm cc own nL ini law sc mc ms A sV) {q b d a : Nat} (hb : b < 11) (hk : d < nfc b) (hk0 : xkd b d = 2) (hl : Cond.fieldLink own a ((xC b).2.1 d).1 ((xC b).2.1 d).2.1 ((xC b).2.1 d).2.2.1 ∈ xW) (hd : decode cc pc = .ok (.getfield a, 3)) (hS : S[q]? = some (b, 0))
    (k : XW p l e Rm s m args below meth c dC dI A a0 n0 sV nL mc ms Zf (pc + 3) L (va_rf (r q d) :: st) S I J r cu su) : XW p l e Rm s m args below meth c dC dI A a0 n0 sV nL mc ms Zf pc L (.ref q :: st) S I J r cu su := by
  intro ls H locs ws tys h
  obtain ⟨cA, g1, -⟩ := h.2.1.2.2.2.2.at hS
  rw [xcell_obj hb] at g1
  have hv := xobj_get (ad := xadr ws) (I := I) (J := J) (r := r) (t := b) (q := q) hk
  have e1 : xfld (xadr ws) I J r b q d = xtr (xadr ws) sV (va_rf (r q d)) := by unfold xfld; rw [hk0, xtr_rf]; rfl
  rw [e1] at hv
  exact va_get F.1 F.2.1 F.2.2.2.2.1 (xlay_in hb) F.2.2.2.1 h.2.1.1 h.2.1.2.1 q g1 (xC_at hb) d (by rw [xC_n hb]; exact hk) (F.2.2.2.2.1 _ hl) (fun _ h => h) hv hd (k ls H locs ws tys (h.push (ok_cons (ok_rf h.2.1.2.2.2.2 q d) (ok_tl h.2.2.2.1))))
/-- a putfield, final in a constructor or not -/
theorem xs_put (F : XFx p s m meth c args Rm cc own nL ini law sc mc ms A sV) {q b d a : Nat} {v : Value} {I' : XI} {J' : XJ} {r' : XR} (hb : b < 11) (hk : d < nfc b) (hl : Cond.fieldLink own a ((xC b).2.1 d).1 ((xC b).2.1 d).2.1 ((xC b).2.1 d).2.2.1 ∈ xW) (hf : ((xC b).2.1 d).2.2.2 = false ∨ (((xC b).2.1 d).2.2.2 = true ∧ ini = true ∧ ((xC b).2.1 d).1 = own)) (hd : decode cc pc = .ok (.putfield a, 3)) (hS : S[q]? = some (b, 0))
    (hn : ∀ ad, narrow (xty b d) (xtr ad sV v) = xtr ad sV v) (hfit : ∀ ad, fits (xty b d) (xtr ad sV v) = true) (hv : ∀ ad, xfld ad I' J' r' b q d = xtr ad sV v) (hne : ∀ ad j, j ≠ d → xfld ad I' J' r' b q j = xfld ad I J r b q j)
    (hI : ∀ p, p ≠ q → I' p = I p) (hJ : ∀ p, p ≠ q → J' p = J p) (hr : ∀ p, p ≠ q → r' p = r p) (hrv : xok S v → (∀ k v : Nat, r q k = some v → v < S.length) → ∀ k v : Nat, r' q k = some v → v < S.length)
    (k : XW p l e Rm s m args below meth c dC dI A a0 n0 sV nL mc ms Zf (pc + 3) L st S I' J' r' cu su) : XW p l e Rm s m args below meth c dC dI A a0 n0 sV nL mc ms Zf pc L (v :: .ref q :: st) S I J r cu su := by
  intro ls H locs ws tys h
  obtain ⟨cA, g1, g2⟩ := h.2.1.2.2.2.2.at hS
  have g3 := g1
  rw [xcell_obj hb] at g3
  have hty := fun j (hj : j < (xC b).2.2) => (xcls_one hb (by rw [xC_n hb] at hj; exact hj) : _ ∧ parseFieldDescriptor ((xC b).2.1 j).2.2.1 = some (xty b j) ∧ _ ∧ _).2.1
  have hnm : ∀ a', a' < (xC b).2.2 → ∀ b', b' < (xC b).2.2 → a' ≠ b' → ((xC b).2.1 a').2.1 ≠ ((xC b).2.1 b').2.1 := fun a' ha' b' hb' hab => by
    rw [xC_n hb] at ha' hb'
    exact (xcls_one hb ha').2.2.2 b' hb' hab
  have hk' : d < (xC b).2.2 := by rw [xC_n hb]; exact hk
  have hdf := (xcls_one hb hk).2.1
  have eS : (xobj (xadr ws) I J r b q).set d (xtr (xadr ws) sV v) = xobj (xadr ws) I' J' r' b q := xobj_set (hv _) (hne _)
  have eX : (Sum.inr (b, (xobj (xadr ws) I J r b q).set d (xtr (xadr ws) sV v)) : va_E) = xcell (xadr ws) I' J' r' cA b 0 q := by rw [eS, xcell_obj hb]
  have go : ∀ (H1 : Heap) (locs1 : List Loc), va_P (dC, dI) xcl (ws.set q (xadr ws q, .inr (b, (xobj (xadr ws) I J r b q).set d (xtr (xadr ws) sV v)))) H1 → va_D A (ws.set q (xadr ws q, .inr (b, (xobj (xadr ws) I J r b q).set d (xtr (xadr ws) sV v)))) → va_S A s.heap H1 locs1 → W p l e Rm s m args below meth c H1 locs1 cu su Zf (F0 m (pc + 3) ls (st.map (xtr (xadr ws) sV))) := by
    intro H1 locs1 hP1 hD1 hS1
    obtain ⟨x1, x2⟩ := XH.mem h hS g1 g2 eX hP1 hD1 hS1 hI hJ hr (hrv (ok_hd h.2.2.2.1) (fun k v hv => h.2.1.2.2.2.2.2.2.1 q k v hv)) (fun e => by omega) (ok_tl (ok_tl h.2.2.2.1))
    have k1 := k ls H1 locs1 _ tys x1
    rw [x2] at k1
    exact k1
  rcases hf with hf | ⟨hf, hi, hdec⟩
  · exact va_put F.1 F.2.1 F.2.2.2.2.1 (xlay_in hb) (xty b) hty hnm F.2.2.2.1 h.2.1.1 h.2.1.2.1 h.2.1.2.2.1 h.2.1.2.2.2.1 q g3 (xC_at hb) d hk' (F.2.2.2.2.1 _ hl) (fun _ h => h) hf hdf (hn _) (hfit _) (by rw [xobj_len]; exact hk) hd go
  · exact va_putF F.1 F.2.1 F.2.2.2.2.1 (xlay_in hb) (xty b) hty hnm F.2.2.2.1 h.2.1.1 h.2.1.2.1 h.2.1.2.2.1 h.2.1.2.2.2.1 q g3 (xC_at hb) d hk' (F.2.2.2.2.1 _ hl) (fun _ h => h) hf (F.2.2.2.2.2.1 hi) hdec hdf (hn _) (hfit _) (by rw [xobj_len]; exact hk) hd go
theorem xfld_ne {ad : Nat → Nat} {I I' : XI} {J J' : XJ} {r r' : XR} {b q j : Nat} (hI : I' q j = I q j) (hJ : J' q j = J q j) (hr : r' q j = r q j) : xfld ad I' J' r' b q j = xfld ad I J r b q j := by unfold xfld; rw [hI, hJ, hr]
theorem up2_at {α : Type} {f : Nat → Nat → α} {a i : Nat} {v : α} : up2 f a i v a i = v := by simp [up2]
theorem up2_j {α : Type} {f : Nat → Nat → α} {a i j : Nat} {v : α} (h : j ≠ i) : up2 f a i v a j = f a j := by simp [up2, h]
theorem narrow_int {x : Int32} : narrow .int (.int x) = .int x := rfl
theorem xs_putI (F : XFx p s m meth c args Rm cc own nL ini law sc mc ms A sV) {q b d a : Nat} {x : Int32} (hb : b < 11) (hk : d < nfc b) (hk0 : xkd b d = 0) (ht : xty b d = .int ∨ (xty b d = .boolean ∧ (x = 0 ∨ x = 1))) (hl : Cond.fieldLink own a ((xC b).2.1 d).1 ((xC b).2.1 d).2.1 ((xC b).2.1 d).2.2.1 ∈ xW) (hf : ((xC b).2.1 d).2.2.2 = false ∨ (((xC b).2.1 d).2.2.2 = true ∧ ini = true ∧ ((xC b).2.1 d).1 = own)) (hd : decode cc pc = .ok (.putfield a, 3)) (hS : S[q]? = some (b, 0))
    (k : XW p l e Rm s m args below meth c dC dI A a0 n0 sV nL mc ms Zf (pc + 3) L st S (up2 I q d x) J r cu su) : XW p l e Rm s m args below meth c dC dI A a0 n0 sV nL mc ms Zf pc L (.int x :: .ref q :: st) S I J r cu su := by
  refine xs_put F hb hk hl hf hd hS (fun ad => ?_) (fun ad => ?_) (fun ad => ?_) (fun ad j hj => ?_) (fun p hp => up2_ne hp) (fun _ _ => rfl) (fun _ _ => rfl) (fun _ h => h) k
  · rcases ht with e | ⟨e, rfl | rfl⟩ <;> rw [e] <;> rfl
  · rcases ht with e | ⟨e, rfl | rfl⟩ <;> rw [e] <;> rfl
  · unfold xfld; rw [hk0]; show Value.int (up2 I q d x q d) = _; rw [up2_at]; rfl
  · exact xfld_ne (up2_j hj) rfl rfl
theorem xs_putJ (F : XFx p s m meth c args Rm cc own nL ini law sc mc ms A sV) {q b d a : Nat} {x : Int64} (hb : b < 11) (hk : d < nfc b) (hk0 : xkd b d = 1) (hl : Cond.fieldLink own a ((xC b).2.1 d).1 ((xC b).2.1 d).2.1 ((xC b).2.1 d).2.2.1 ∈ xW) (hf : ((xC b).2.1 d).2.2.2 = false ∨ (((xC b).2.1 d).2.2.2 = true ∧ ini = true ∧ ((xC b).2.1 d).1 = own)) (hd : decode cc pc = .ok (.putfield a, 3)) (hS : S[q]? = some (b, 0))
    (k : XW p l e Rm s m args below meth c dC dI A a0 n0 sV nL mc ms Zf (pc + 3) L st S I (up2 J q d x) r cu su) : XW p l e Rm s m args below meth c dC dI A a0 n0 sV nL mc ms Zf pc L (.long x :: .ref q :: st) S I J r cu su := by
  have ht : xty b d = .long := by
    have h1 := (xcls_one hb hk).2.2.1
    rw [hk0] at h1
    cases hx : xty b d <;> rw [hx] at h1 <;> first | rfl | simp [xkof] at h1
  refine xs_put F hb hk hl hf hd hS (fun ad => ?_) (fun ad => ?_) (fun ad => ?_) (fun ad j hj => ?_) (fun _ _ => rfl) (fun p hp => up2_ne hp) (fun _ _ => rfl) (fun _ h => h) k
  · rw [ht]; rfl
  · rw [ht]; rfl
  · unfold xfld; rw [hk0]; show Value.long (up2 J q d x q d) = _; rw [up2_at]; rfl
  · exact xfld_ne rfl (up2_j hj) rfl
theorem xs_putR (F : XFx p s m meth c args Rm cc own nL ini law sc mc ms A sV) {q b d a x : Nat} (hb : b < 11) (hk : d < nfc b) (hk0 : xkd b d = 2) (hl : Cond.fieldLink own a ((xC b).2.1 d).1 ((xC b).2.1 d).2.1 ((xC b).2.1 d).2.2.1 ∈ xW) (hf : ((xC b).2.1 d).2.2.2 = false ∨ (((xC b).2.1 d).2.2.2 = true ∧ ini = true ∧ ((xC b).2.1 d).1 = own)) (hd : decode cc pc = .ok (.putfield a, 3)) (hS : S[q]? = some (b, 0))
    (k : XW p l e Rm s m args below meth c dC dI A a0 n0 sV nL mc ms Zf (pc + 3) L st S I J (up2 r q d (some x)) cu su) : XW p l e Rm s m args below meth c dC dI A a0 n0 sV nL mc ms Zf pc L (.ref x :: .ref q :: st) S I J r cu su := by
  have h1 := (xcls_one hb hk).2.2.1
  rw [hk0] at h1
  refine xs_put F hb hk hl hf hd hS (fun ad => ?_) (fun ad => ?_) (fun ad => ?_) (fun ad j hj => ?_) (fun _ _ => rfl) (fun _ _ => rfl) (fun p hp => up2_ne hp) (fun hv hh k' v' hk' => ?_) k
  · cases hx : xty b d <;> rw [hx] at h1 <;> first | rfl | (simp [xkof] at h1)
  · cases hx : xty b d <;> rw [hx] at h1 <;> first | rfl | (simp [xkof] at h1)
  · unfold xfld; rw [hk0]; show va_rf ((up2 r q d (some x) q d).map ad) = _; rw [up2_at]; rfl
  · exact xfld_ne rfl rfl (up2_j hj)
  · by_cases e : k' = d
    · subst e
      rw [up2_at] at hk'
      cases hk'
      exact hv
    · rw [up2_j e] at hk'
      exact hh k' v' hk'
/-! arrays -/
theorem xs_alen (F : XFx p s m meth c args Rm cc own nL ini law sc mc ms A sV) {q t n : Nat} (hS : S[q]? = some (t, n)) (ht : 100 ≤ t) (hd : decode cc pc = .ok (.arraylength, 1))
    (k : XW p l e Rm s m args below meth c dC dI A a0 n0 sV nL mc ms Zf (pc + 1) L (.int (nI n) :: st) S I J r cu su) : XW p l e Rm s m args below meth c dC dI A a0 n0 sV nL mc ms Zf pc L (.ref q :: st) S I J r cu su := by
  intro ls H locs ws tys h
  obtain ⟨cA, g1, g2⟩ := h.2.1.2.2.2.2.at hS
  obtain ⟨t0, g2⟩ := g2 ht
  have e1 : xcell (xadr ws) I J r cA t n q = .inl (cA, xarr (xadr ws) I J r t n q) := if_neg (by omega)
  rw [e1] at g1
  have e2 : (xarr (xadr ws) I J r t n q).1 = n := by unfold xarr; split <;> rfl
  exact va_alen F.1 F.2.1 h.2.1.1 h.2.1.2.1 q t0 g1 g2 (by rw [e2]; rfl) hd (k ls H locs ws tys (h.push (ok_cons trivial (ok_tl h.2.2.2.1))))
theorem xs_iald (F : XFx p s m meth c args Rm cc own nL ini law sc mc ms A sV) {q n : Nat} {i : Int32} (hS : S[q]? = some (100, n)) (hin : vp_in i n) (hd : decode cc pc = .ok (.iaload, 1))
    (k : XW p l e Rm s m args below meth c dC dI A a0 n0 sV nL mc ms Zf (pc + 1) L (.int (I q i.toNatClampNeg) :: st) S I J r cu su) : XW p l e Rm s m args below meth c dC dI A a0 n0 sV nL mc ms Zf pc L (.int i :: .ref q :: st) S I J r cu su := by
  intro ls H locs ws tys h
  obtain ⟨cA, g1, g2⟩ := h.2.1.2.2.2.2.at hS
  obtain ⟨t0, g2⟩ := g2 (by omega)
  exact va_iald F.1 F.2.1 h.2.1.1 h.2.1.2.1 q t0 g1 g2 hin hd (k ls H locs ws tys (h.push (ok_cons trivial (ok_tl (ok_tl h.2.2.2.1)))))
theorem xs_bald (F : XFx p s m meth c args Rm cc own nL ini law sc mc ms A sV) {q n : Nat} {i : Int32} (hS : S[q]? = some (102, n)) (hin : vp_in i n) (hd : decode cc pc = .ok (.baload, 1))
    (k : XW p l e Rm s m args below meth c dC dI A a0 n0 sV nL mc ms Zf (pc + 1) L (.int (I q i.toNatClampNeg) :: st) S I J r cu su) : XW p l e Rm s m args below meth c dC dI A a0 n0 sV nL mc ms Zf pc L (.int i :: .ref q :: st) S I J r cu su := by
  intro ls H locs ws tys h
  obtain ⟨cA, g1, g2⟩ := h.2.1.2.2.2.2.at hS
  obtain ⟨t0, g2⟩ := g2 (by omega)
  exact va_bald F.1 F.2.1 h.2.1.1 h.2.1.2.1 q t0 g1 g2 hin hd (k ls H locs ws tys (h.push (ok_cons trivial (ok_tl (ok_tl h.2.2.2.1)))))
theorem xs_lald (F : XFx p s m meth c args Rm cc own nL ini law sc mc ms A sV) {q n : Nat} {i : Int32} (hS : S[q]? = some (101, n)) (hin : vp_in i n) (hd : decode cc pc = .ok (.laload, 1))
    (k : XW p l e Rm s m args below meth c dC dI A a0 n0 sV nL mc ms Zf (pc + 1) L (.long (J q i.toNatClampNeg) :: st) S I J r cu su) : XW p l e Rm s m args below meth c dC dI A a0 n0 sV nL mc ms Zf pc L (.int i :: .ref q :: st) S I J r cu su := by
  intro ls H locs ws tys h
  obtain ⟨cA, g1, g2⟩ := h.2.1.2.2.2.2.at hS
  obtain ⟨t0, g2⟩ := g2 (by omega)
  exact va_lald F.1 F.2.1 h.2.1.1 h.2.1.2.1 q t0 g1 g2 hin hd (k ls H locs ws tys (h.push (ok_cons trivial (ok_tl (ok_tl h.2.2.2.1)))))
theorem xs_aald (F : XFx p s m meth c args Rm cc own nL ini law sc mc ms A sV) {q t n : Nat} {i : Int32} (hS : S[q]? = some (t, n)) (ht : 103 ≤ t) (hin : vp_in i n) (hd : decode cc pc = .ok (.aaload, 1))
    (k : XW p l e Rm s m args below meth c dC dI A a0 n0 sV nL mc ms Zf (pc + 1) L (va_rf (r q i.toNatClampNeg) :: st) S I J r cu su) : XW p l e Rm s m args below meth c dC dI A a0 n0 sV nL mc ms Zf pc L (.int i :: .ref q :: st) S I J r cu su := by
  intro ls H locs ws tys h
  obtain ⟨cA, g1, g2⟩ := h.2.1.2.2.2.2.at hS
  obtain ⟨t0, g2⟩ := g2 (by omega)
  have e1 : xcell (xadr ws) I J r cA t n q = .inl (cA, n, .inr (.inr (.inr (.inr (fun j => (r q j).map (xadr ws)))))) := by
    unfold xcell
    rw [if_neg (by omega)]
    unfold xarr
    split <;> first | omega | rfl
  rw [e1] at g1
  have k1 := k ls H locs ws tys (h.push (ok_cons (ok_rf h.2.1.2.2.2.2 q _) (ok_tl (ok_tl h.2.2.2.1))))
  rw [List.map_cons, xtr_rf] at k1
  have hlt : i.toNatClampNeg < n := Nat.not_le.mp fun q => hin (Or.inr q)
  have hty : refKind (xaty t) = true := by unfold xaty; split <;> first | omega | rfl
  exact W.aald (v := va_rf ((r q i.toNatClampNeg).map (xadr ws))) (ty := xaty t) F.1 F.2.1 (h.2.1.2.1 q _ g1) ((h.2.1.1.2 t0 _ g2).1 n (fun j => va_rf ((r q j).map (xadr ws)))) hty (fun q => by cases q) (by show ¬ (i < 0 ∨ (arrV _ _ _).slots.size ≤ _); rw [arrV_size]; exact hin) (by show (arrV _ _ _).slots[_]? = _; rw [arrV_read _ _ hlt]) rfl rfl hd k1
theorem xs_iast (F : XFx p s m meth c args Rm cc own nL ini law sc mc ms A sV) {q n : Nat} {i x : Int32} (hS : S[q]? = some (100, n)) (hin : vp_in i n) (hd : decode cc pc = .ok (.iastore, 1))
    (k : XW p l e Rm s m args below meth c dC dI A a0 n0 sV nL mc ms Zf (pc + 1) L st S (up2 I q i.toNatClampNeg x) J r cu su) : XW p l e Rm s m args below meth c dC dI A a0 n0 sV nL mc ms Zf pc L (.int x :: .int i :: .ref q :: st) S I J r cu su := by
  intro ls H locs ws tys h
  obtain ⟨cA, g1, g3⟩ := h.2.1.2.2.2.2.at hS
  obtain ⟨t0, g2⟩ := g3 (by omega)
  refine va_iast F.1 F.2.1 h.2.1.1 h.2.1.2.1 h.2.1.2.2.1 h.2.1.2.2.2.1 q t0 g1 g2 hin hd (fun H1 locs1 hP1 hD1 hS1 => ?_)
  obtain ⟨x1, x2⟩ := XH.mem (I' := up2 I q i.toNatClampNeg x) (J' := J) (r' := r) h hS g1 g3 (by rw [upd_up2]; rfl) hP1 hD1 hS1 (fun p hp => up2_ne hp) (fun _ _ => rfl) (fun _ _ => rfl) (fun k v hv => h.2.1.2.2.2.2.2.2.1 q k v hv) (fun e => by omega) (ok_tl (ok_tl (ok_tl h.2.2.2.1)))
  have k1 := k ls H1 locs1 _ tys x1
  rw [x2] at k1
  exact k1
theorem toInt8_idem (x : Int32) : (x.toInt8.toInt32).toInt8.toInt32 = x.toInt8.toInt32 := by simp
theorem xs_bast (F : XFx p s m meth c args Rm cc own nL ini law sc mc ms A sV) {q n : Nat} {i x : Int32} (hS : S[q]? = some (102, n)) (hin : vp_in i n) (hd : decode cc pc = .ok (.bastore, 1))
    (k : XW p l e Rm s m args below meth c dC dI A a0 n0 sV nL mc ms Zf (pc + 1) L st S (up2 I q i.toNatClampNeg x.toInt8.toInt32) J r cu su) : XW p l e Rm s m args below meth c dC dI A a0 n0 sV nL mc ms Zf pc L (.int x :: .int i :: .ref q :: st) S I J r cu su := by
  intro ls H locs ws tys h
  obtain ⟨cA, g1, g3⟩ := h.2.1.2.2.2.2.at hS
  obtain ⟨t0, g2⟩ := g3 (by omega)
  refine va_bast F.1 F.2.1 h.2.1.1 h.2.1.2.1 h.2.1.2.2.1 h.2.1.2.2.2.1 q t0 g1 g2 hin hd (fun H1 locs1 hP1 hD1 hS1 => ?_)
  obtain ⟨x1, x2⟩ := XH.mem (I' := up2 I q i.toNatClampNeg x.toInt8.toInt32) (J' := J) (r' := r) h hS g1 g3 (by rw [upd_up2]; rfl) hP1 hD1 hS1 (fun p hp => up2_ne hp) (fun _ _ => rfl) (fun _ _ => rfl) (fun k v hv => h.2.1.2.2.2.2.2.2.1 q k v hv) (fun _ j => by
    by_cases e : j = i.toNatClampNeg
    · subst e; rw [up2_at]; exact toInt8_idem x
    · rw [up2_j e]; exact h.2.1.2.2.2.2.2.2.2.1 q n j hS) (ok_tl (ok_tl (ok_tl h.2.2.2.1)))
  have k1 := k ls H1 locs1 _ tys x1
  rw [x2] at k1
  exact k1
theorem xs_last (F : XFx p s m meth c args Rm cc own nL ini law sc mc ms A sV) {q n : Nat} {i : Int32} {x : Int64} (hS : S[q]? = some (101, n)) (hin : vp_in i n) (hd : decode cc pc = .ok (.lastore, 1))
    (k : XW p l e Rm s m args below meth c dC dI A a0 n0 sV nL mc ms Zf (pc + 1) L st S I (up2 J q i.toNatClampNeg x) r cu su) : XW p l e Rm s m args below meth c dC dI A a0 n0 sV nL mc ms Zf pc L (.long x :: .int i :: .ref q :: st) S I J r cu su := by
  intro ls H locs ws tys h
  obtain ⟨cA, g1, g3⟩ := h.2.1.2.2.2.2.at hS
  obtain ⟨t0, g2⟩ := g3 (by omega)
  refine va_last F.1 F.2.1 h.2.1.1 h.2.1.2.1 h.2.1.2.2.1 h.2.1.2.2.2.1 q t0 g1 g2 hin hd (fun H1 locs1 hP1 hD1 hS1 => ?_)
  obtain ⟨x1, x2⟩ := XH.mem (I' := I) (J' := up2 J q i.toNatClampNeg x) (r' := r) h hS g1 g3 (by rw [updL_up2]; rfl) hP1 hD1 hS1 (fun _ _ => rfl) (fun p hp => up2_ne hp) (fun _ _ => rfl) (fun k v hv => h.2.1.2.2.2.2.2.2.1 q k v hv) (fun e => by omega) (ok_tl (ok_tl (ok_tl h.2.2.2.1)))
  have k1 := k ls H1 locs1 _ tys x1
  rw [x2] at k1
  exact k1
theorem xs_aast (F : XFx p s m meth c args Rm cc own nL ini law sc mc ms A sV) {q n v : Nat} {i : Int32} (hS : S[q]? = some (103, n)) (hV : S[v]? = some (0, 0)) (hin : vp_in i n) (hd : decode cc pc = .ok (.aastore, 1))
    (k : XW p l e Rm s m args below meth c dC dI A a0 n0 sV nL mc ms Zf (pc + 1) L st S I J (up2 r q i.toNatClampNeg (some v)) cu su) : XW p l e Rm s m args below meth c dC dI A a0 n0 sV nL mc ms Zf pc L (.ref v :: .int i :: .ref q :: st) S I J r cu su := by
  intro ls H locs ws tys h
  obtain ⟨cA, g1, g3⟩ := h.2.1.2.2.2.2.at hS
  obtain ⟨t0, g2⟩ := g3 (by omega)
  obtain ⟨cV, v1, -⟩ := h.2.1.2.2.2.2.at hV
  rw [xcell_obj (by decide)] at v1
  refine va_astq F.1 F.2.1 h.2.1.1 h.2.1.2.1 h.2.1.2.2.1 h.2.1.2.2.2.1 q t0 v 0 (r := (cR0, cT0, 19)) g1 g2 v1 rfl hin hd (fun H1 locs1 hP1 hD1 hS1 => ?_)
  obtain ⟨x1, x2⟩ := XH.mem (I' := I) (J' := J) (r' := up2 r q i.toNatClampNeg (some v)) h hS g1 g3 (by
    show _ = (Sum.inl (cA, n, .inr (.inr (.inr (.inr (fun j => (up2 r q i.toNatClampNeg (some v) q j).map (xadr ws)))))) : va_E)
    have e9 : va_up (fun j => (r q j).map (xadr ws)) i.toNatClampNeg (some (xadr ws v)) = fun j => (up2 r q i.toNatClampNeg (some v) q j).map (xadr ws) := by
      funext j
      rw [up2_same]
      unfold va_up
      by_cases e : j = i.toNatClampNeg
      · simp [e]
      · simp [e]
    rw [e9]) hP1 hD1 hS1 (fun _ _ => rfl) (fun _ _ => rfl) (fun p hp => up2_ne hp) (fun k' v' hv => by
    by_cases e : k' = i.toNatClampNeg
    · subst e
      rw [up2_at] at hv
      cases hv
      exact (List.getElem?_eq_some_iff.mp hV).1
    · rw [up2_j e] at hv
      exact h.2.1.2.2.2.2.2.2.1 q k' v' hv) (fun e => by omega) (ok_tl (ok_tl (ok_tl h.2.2.2.1)))
  have k1 := k ls H1 locs1 _ tys x1
  rw [x2] at k1
  exact k1
end XOps
