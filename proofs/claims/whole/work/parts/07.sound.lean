section XOps
variable {p : Program} {l : Launch} {e : Env} {Rm : Room} {s : State} {m : MethodId} {args : Array Value} {below : List Frame} {meth : Method} {c : Code} {dC : Nat → ClassId} {dI : Nat → Nat → Nat} {A : Nat → Prop} {a0 : Nat → Nat} {n0 : Nat} {sV : Nat → Value} {nL mc ms : Nat} {Zf : State → Prop} {cc : ByteArray} {own : String} {ini law : Bool} {sc : Nat × (Nat → Int32)} {K : XK} {pc pc' : Nat} {L st : XV} {S : XS} {I : XI} {J : XJ} {r : XR} {cu su : Nat}
/-! new long[4][60] -/
theorem xs_mna (F : XFx p s m meth c args Rm cc own nL ini law sc mc ms A sV) {a q0 n1 : Nat} (hcl : Cond.classLink own a ("[" ++ (FieldType.array .long).toString) ∈ xW) (harr : Cond.arrayClass .long ∈ xW) (hd : decode cc pc = .ok (.multianewarray a 2, 4)) (h0 : S[q0]? = some (101, n1)) (hc1 : cu + 5 ≤ mc) (hc2 : su + 244 ≤ ms)
    (k : XW p l e Rm s m args below meth c dC dI A a0 n0 sV nL mc ms Zf (pc + 4) L (.ref S.length :: st) (S ++ [(104, 4), (101, 60), (101, 60), (101, 60), (101, 60)]) (fun q k => if S.length ≤ q then 0 else I q k) (fun q k => if S.length ≤ q then 0 else J q k) (fun q k => if q = S.length then (if k < 4 then some (S.length + 1 + k) else none) else if S.length < q then none else r q k) (cu + 5) (su + 244)) : XW p l e Rm s m args below meth c dC dI A a0 n0 sV nL mc ms Zf pc L (.int 60 :: .int 4 :: st) S I J r cu su := by
  intro ls H locs ws tys h
  have hF := F
  obtain ⟨hx, hbb, -, hown, hts, -, hA, -, -, -, -, hmc, hms⟩ := hF
  obtain ⟨cy, g0, f0⟩ := h.2.1.2.2.2.2.at h0
  obtain ⟨t0, f0⟩ := f0 (by omega)
  have hcy : s.vm.findClass (FieldType.array .long).toString = some cy := (h.2.1.1.2 t0 _ f0).2
  have e0 : ws ++ va_pl [] (fun _ => (Sum.inr (0, []) : va_E)) = ws := by simp [va_pl]
  refine va_mna (X := ws) (L := []) (f := fun _ => (Sum.inr (0, []) : va_E)) (ty := .long) (N' := 4) (K' := 60) (z := (60, .inr (.inl (fun _ => 0)))) hx hbb hown (hts _ hcl) F.2.2.2.2.2.2.2.1.2.2.2.2.2.1 (hts _ harr) hcy h.2.1.1 (by rw [e0]; exact h.2.1.2.1) (by rw [e0]; exact h.2.1.2.2.1) h.2.1.2.2.2.1 hA (by decide) (by decide) (by decide) (by decide) (by decide) (by decide) (by decide) rfl rfl (by omega) (by omega) (fun c => by
    simp only [Jvm.Free.Multi.innerC, vp_cell, arrV, defaultValue]
    congr 1) hd (fun q rr cA H1 hinj hnot hK1 hP1 hD1 hS1 => ?_)
  have el : va_pl ([] ++ (List.range 4).map rr) (vr_up (fun _ => (Sum.inr (0, []) : va_E)) ((List.range 4).map rr) (.inl (cy, (60, .inr (.inl (fun _ => 0)))))) = [(rr 0, .inl (cy, 60, .inr (.inl (fun _ => 0)))), (rr 1, .inl (cy, 60, .inr (.inl (fun _ => 0)))), (rr 2, .inl (cy, 60, .inr (.inl (fun _ => 0)))), (rr 3, .inl (cy, 60, .inr (.inl (fun _ => 0))))] := by
    have e4 : (List.range 4).map rr = [rr 0, rr 1, rr 2, rr 3] := rfl
    rw [e4]
    simp [va_pl, vr_up]
  rw [el, List.append_assoc] at hP1 hD1
  generalize hl : ([(q, .inl (cA, 4, .inr (.inr (.inr (.inr (fun i => if i < 4 then some (rr i) else none))))))] ++ [(rr 0, .inl (cy, 60, .inr (.inl (fun _ => 0)))), (rr 1, .inl (cy, 60, .inr (.inl (fun _ => 0)))), (rr 2, .inl (cy, 60, .inr (.inl (fun _ => 0)))), (rr 3, .inl (cy, 60, .inr (.inl (fun _ => 0))))] : va_W) = l5 at hP1 hD1
  have hlen : ws.length = S.length := h.2.1.2.2.2.2.1
  have had : ∀ k, k < S.length → xadr (ws ++ l5) k = xadr ws k := fun k hk => xadr_appl (by omega)
  have hat : ∀ j x, l5[j]? = some x → xadr (ws ++ l5) (S.length + j) = x.1 := fun j x hj => by
    apply xadr_of
    rw [← hlen, List.getElem?_append_right (by omega)]
    simpa using hj
  have a0' : xadr (ws ++ l5) S.length = q := hat 0 _ (by rw [← hl]; rfl)
  have a1 : xadr (ws ++ l5) (S.length + 1) = rr 0 := hat 1 _ (by rw [← hl]; rfl)
  have a2 : xadr (ws ++ l5) (S.length + 2) = rr 1 := hat 2 _ (by rw [← hl]; rfl)
  have a3 : xadr (ws ++ l5) (S.length + 3) = rr 2 := hat 3 _ (by rw [← hl]; rfl)
  have a4 : xadr (ws ++ l5) (S.length + 4) = rr 3 := hat 4 _ (by rw [← hl]; rfl)
  have hst := ok_tl (ok_tl h.2.2.2.1)
  have inner : ∀ j, 1 ≤ j → (Sum.inl (cy, 60, .inr (.inl (fun _ => 0))) : va_E) = xcell (xadr (ws ++ l5)) (fun q k => if S.length ≤ q then 0 else I q k) (fun q k => if S.length ≤ q then 0 else J q k) (fun q k => if q = S.length then (if k < 4 then some (S.length + 1 + k) else none) else if S.length < q then none else r q k) cy 101 60 (S.length + j) := fun j hj => by
    show _ = (Sum.inl (cy, 60, .inr (.inl (fun k => if S.length ≤ S.length + j then (0 : Int64) else J (S.length + j) k))) : va_E)
    simp
  have outer : (Sum.inl (cA, 4, .inr (.inr (.inr (.inr (fun i => if i < 4 then some (rr i) else none))))) : va_E) = xcell (xadr (ws ++ l5)) (fun q k => if S.length ≤ q then 0 else I q k) (fun q k => if S.length ≤ q then 0 else J q k) (fun q k => if q = S.length then (if k < 4 then some (S.length + 1 + k) else none) else if S.length < q then none else r q k) cA 104 4 (S.length + 0) := by
    show _ = (Sum.inl (cA, 4, .inr (.inr (.inr (.inr (fun k => ((if S.length + 0 = S.length then (if k < 4 then some (S.length + 1 + k) else none) else if S.length < S.length + 0 then none else r (S.length + 0) k) : Option Nat).map (xadr (ws ++ l5))))))) : va_E)
    have e9 : ∀ k, (if k < 4 then some (rr k) else none) = ((if S.length + 0 = S.length then (if k < 4 then some (S.length + 1 + k) else none) else if S.length < S.length + 0 then none else r (S.length + 0) k) : Option Nat).map (xadr (ws ++ l5)) := fun k => by
      rw [if_pos (Nat.add_zero _)]
      by_cases hk : k < 4
      · rw [if_pos hk, if_pos hk]
        rcases (show k = 0 ∨ k = 1 ∨ k = 2 ∨ k = 3 by omega) with rfl | rfl | rfl | rfl
        · rw [Option.map_some, Nat.add_zero, a1]
        · rw [Option.map_some, Nat.add_assoc, a2]
        · rw [Option.map_some, Nat.add_assoc, a3]
        · rw [Option.map_some, Nat.add_assoc, a4]
      · rw [if_neg hk, if_neg hk]; rfl
    rw [funext e9]
  have hX : XRel a0 n0 (tys ++ [(cA, .array .long)]) (ws ++ l5) (S ++ [(104, 4), (101, 60), (101, 60), (101, 60), (101, 60)]) (fun q k => if S.length ≤ q then 0 else I q k) (fun q k => if S.length ≤ q then 0 else J q k) (fun q k => if q = S.length then (if k < 4 then some (S.length + 1 + k) else none) else if S.length < q then none else r q k) := by
    refine h.2.1.2.2.2.2.make (by rw [← hl]; rfl) tys_app (fun q hq => by funext k; show (if S.length ≤ q then (0 : Int32) else I q k) = I q k; rw [if_neg (by omega)]) (fun q hq => by funext k; show (if S.length ≤ q then (0 : Int64) else J q k) = J q k; rw [if_neg (by omega)]) (fun q hq => by funext k; show (if q = S.length then _ else if S.length < q then none else r q k) = r q k; rw [if_neg (by omega), if_neg (by omega)]) (fun j t' n' hj => ?_) (fun q k v hq hr => ?_) (fun j n' i hj => by
      show ((if S.length ≤ S.length + j then (0 : Int32) else _) : Int32).toInt8.toInt32 = (if S.length ≤ S.length + j then (0 : Int32) else _)
      rw [if_pos (by omega)]; rfl)
    · have inn : ∀ j x, l5[j]? = some (x, .inl (cy, 60, .inr (.inl (fun _ => 0)))) → 1 ≤ j → ∃ cA' : ClassId, l5[j]? = some (xadr (ws ++ l5) (S.length + j), xcell (xadr (ws ++ l5)) (fun q k => if S.length ≤ q then 0 else I q k) (fun q k => if S.length ≤ q then 0 else J q k) (fun q k => if q = S.length then (if k < 4 then some (S.length + 1 + k) else none) else if S.length < q then none else r q k) cA' 101 60 (S.length + j)) ∧ (100 ≤ 101 → ∃ t0 : Nat, (tys ++ [(cA, FieldType.array .long)])[t0]? = some (cA', xaty 101)) := fun j x hj h1 =>
        ⟨cy, by rw [hj, hat j _ hj]; exact congrArg (fun z => some (x, z)) (inner j h1), fun _ => ⟨t0, tys_app _ _ f0⟩⟩
      match j, hj with
      | 0, hj =>
        cases hj
        have h5 : l5[0]? = some (q, .inl (cA, 4, .inr (.inr (.inr (.inr (fun i => if i < 4 then some (rr i) else none)))))) := by rw [← hl]; rfl
        exact ⟨cA, by rw [h5, hat 0 _ h5]; exact congrArg (fun z => some (q, z)) outer, fun _ => ⟨_, tys_new⟩⟩
      | 1, hj => cases hj; exact inn 1 (rr 0) (by rw [← hl]; rfl) (by omega)
      | 2, hj => cases hj; exact inn 2 (rr 1) (by rw [← hl]; rfl) (by omega)
      | 3, hj => cases hj; exact inn 3 (rr 2) (by rw [← hl]; rfl) (by omega)
      | 4, hj => cases hj; exact inn 4 (rr 3) (by rw [← hl]; rfl) (by omega)
      | j + 5, hj => cases hj
    · by_cases e : q = S.length
      · rw [if_pos e] at hr
        split at hr
        · cases hr; simp; omega
        · cases hr
      · rw [if_neg e, if_pos (by omega)] at hr
        cases hr
  have k1 := k ls H1 locs (ws ++ l5) (tys ++ [(cA, .array .long)]) ⟨h.1.congr h.2.2.1 had, ⟨hK1, hP1, hD1, hS1, hX⟩, ok_app h.2.2.1, ok_cons (by show S.length < _; simp) (ok_app hst), hc1, hc2⟩
  have e5 : (Value.ref S.length :: st).map (xtr (xadr (ws ++ l5)) sV) = .ref q :: st.map (xtr (xadr ws) sV) := by
    rw [List.map_cons, map_congr hst had]
    show Value.ref _ :: _ = _
    rw [a0']
  rw [e5] at k1
  exact k1
/-! strings, statics, the script -/
theorem xs_strV (F : XFx p s m meth c args Rm cc own nL ini law sc mc ms A sV) {a i : Nat} (hi : i < 29) (hl : Cond.fieldLink own a "java/lang/String" "value" "[B" ∈ xW) (hd : decode cc pc = .ok (.getfield a, 3))
    (k : XW p l e Rm s m args below meth c dC dI A a0 n0 sV nL mc ms Zf (pc + 3) L (.retAddr (1000 + i) :: st) S I J r cu su) : XW p l e Rm s m args below meth c dC dI A a0 n0 sV nL mc ms Zf pc L (.retAddr i :: st) S I J r cu su := by
  intro ls H locs ws tys h
  have k1 := k ls H locs ws tys (h.push (ok_cons trivial (ok_tl h.2.2.2.1)))
  have hF := F
  obtain ⟨hx, hbb, -, hown, hts, -, hA, ⟨⟨adK, adV, hE, h9⟩, -⟩, -⟩ := hF
  obtain ⟨-, e1, e2⟩ := h9 i hi
  show W p l e Rm s m args below meth c H locs cu su Zf (F0 m pc ls (sV i :: st.map (xtr (xadr ws) sV)))
  have k2 : W p l e Rm s m args below meth c H locs cu su Zf (F0 m (pc + 3) ls (sV (1000 + i) :: st.map (xtr (xadr ws) sV))) := k1
  rw [e2] at k2
  rw [e1]
  exact vk_getf hx hbb (hE i hi).2.2.1 h.2.1.2.2.2.1 hown (hts _ hl) (fun _ h => h) hd k2
theorem xs_strC (F : XFx p s m meth c args Rm cc own nL ini law sc mc ms A sV) {a i : Nat} (hi : i < 29) (hl : Cond.fieldLink own a "java/lang/String" "coder" "B" ∈ xW) (hd : decode cc pc = .ok (.getfield a, 3))
    (k : XW p l e Rm s m args below meth c dC dI A a0 n0 sV nL mc ms Zf (pc + 3) L (.int 0 :: st) S I J r cu su) : XW p l e Rm s m args below meth c dC dI A a0 n0 sV nL mc ms Zf pc L (.retAddr i :: st) S I J r cu su := by
  intro ls H locs ws tys h
  have k1 := k ls H locs ws tys (h.push (ok_cons trivial (ok_tl h.2.2.2.1)))
  have hF := F
  obtain ⟨hx, hbb, -, hown, hts, -, hA, ⟨⟨adK, adV, hE, h9⟩, -⟩, -⟩ := hF
  obtain ⟨-, e1, e2⟩ := h9 i hi
  show W p l e Rm s m args below meth c H locs cu su Zf (F0 m pc ls (sV i :: st.map (xtr (xadr ws) sV)))
  rw [e1]
  exact vk_getf hx hbb (hE i hi).2.1 h.2.1.2.2.2.1 hown (hts _ hl) (fun _ h => h) hd k1
theorem xlens_at {i : Nat} : xlens.getD i 0 = strLen i := by
  unfold xlens strLen
  simp only [List.getD_eq_getElem?_getD, List.getElem?_map]
  cases xstb[i]? <;> rfl
theorem xs_strL (F : XFx p s m meth c args Rm cc own nL ini law sc mc ms A sV) {i : Nat} (h1 : 1000 ≤ i) (h2 : i < 1029) (hd : decode cc pc = .ok (.arraylength, 1))
    (k : XW p l e Rm s m args below meth c dC dI A a0 n0 sV nL mc ms Zf (pc + 1) L (.int (nI (strLen (i - 1000))) :: st) S I J r cu su) : XW p l e Rm s m args below meth c dC dI A a0 n0 sV nL mc ms Zf pc L (.retAddr i :: st) S I J r cu su := by
  intro ls H locs ws tys h
  have k1 := k ls H locs ws tys (h.push (ok_cons trivial (ok_tl h.2.2.2.1)))
  have hF := F
  obtain ⟨hx, hbb, -, hown, hts, -, hA, ⟨⟨adK, adV, hE, h9⟩, -⟩, -⟩ := hF
  obtain ⟨-, e1, e2⟩ := h9 (i - 1000) (by omega)
  have e3 : 1000 + (i - 1000) = i := by omega
  rw [e3] at e2
  show W p l e Rm s m args below meth c H locs cu su Zf (F0 m pc ls (sV i :: st.map (xtr (xadr ws) sV)))
  rw [e2]
  exact va_tlen hx hbb (hE (i - 1000) (by omega)).2.2.2 h.2.1.2.2.2.1 (by rw [xlens_at]; rfl) hd k1
theorem xbyts_at {i j : Nat} (h : j < strLen i) : ((xbyts.getD i []).getD j 0) = strAt i j := by
  unfold xbyts strAt strLen at *
  simp only [List.getD_eq_getElem?_getD, List.getElem?_map] at *
  cases hx : xstb[i]? with
  | none => rw [hx] at h; simp at h
  | some l => rw [hx] at h; simp at h; simp [h]
theorem xs_strB (F : XFx p s m meth c args Rm cc own nL ini law sc mc ms A sV) {i : Nat} {j : Int32} (h1 : 1000 ≤ i) (h2 : i < 1029) (hj : vp_in j (strLen (i - 1000))) (hd : decode cc pc = .ok (.baload, 1))
    (k : XW p l e Rm s m args below meth c dC dI A a0 n0 sV nL mc ms Zf (pc + 1) L (.int (strAt (i - 1000) j.toNatClampNeg) :: st) S I J r cu su) : XW p l e Rm s m args below meth c dC dI A a0 n0 sV nL mc ms Zf pc L (.int j :: .retAddr i :: st) S I J r cu su := by
  intro ls H locs ws tys h
  have k1 := k ls H locs ws tys (h.push (ok_cons trivial (ok_tl (ok_tl h.2.2.2.1))))
  have hF := F
  obtain ⟨hx, hbb, -, hown, hts, -, hA, ⟨⟨adK, adV, hE, h9⟩, -⟩, -⟩ := hF
  obtain ⟨-, e1, e2⟩ := h9 (i - 1000) (by omega)
  have e3 : 1000 + (i - 1000) = i := by omega
  rw [e3] at e2
  show W p l e Rm s m args below meth c H locs cu su Zf (F0 m pc ls (.int j :: sV i :: st.map (xtr (xadr ws) sV)))
  rw [e2]
  have hlt : j.toNatClampNeg < strLen (i - 1000) := Nat.not_le.mp fun q => hj (Or.inr q)
  exact va_tb hx hbb (hE (i - 1000) (by omega)).2.2.2 h.2.1.2.2.2.1 (by rw [xlens_at]; exact hj) (by show Value.int _ = _; rw [xbyts_at hlt]; rfl) hd k1
theorem xs_getS (F : XFx p s m meth c args Rm cc own nL ini law sc mc ms A sV) {a : Nat} (hl : Cond.fieldLink own a "java/lang/String" "COMPACT_STRINGS" "Z" ∈ xW) (hd : decode cc pc = .ok (.getstatic a, 3))
    (k : XW p l e Rm s m args below meth c dC dI A a0 n0 sV nL mc ms Zf (pc + 3) L (.int 1 :: st) S I J r cu su) : XW p l e Rm s m args below meth c dC dI A a0 n0 sV nL mc ms Zf pc L st S I J r cu su := by
  intro ls H locs ws tys h
  have k1 := k ls H locs ws tys (h.push (ok_cons trivial h.2.2.2.1))
  have hF := F
  obtain ⟨hx, hbb, -, hown, hts, -, hA, ⟨-, hZ, -⟩, -⟩ := hF
  exact va_gets hx hbb hZ h.2.1.2.2.2.1 hown (hts _ hl) (fun _ h => h) hd k1
theorem xs_getP (F : XFx p s m meth c args Rm cc own nL ini law sc mc ms A sV) {a : Nat} (hl : Cond.fieldLink own a "jdk/internal/util/Preconditions" "SIOOBE_FORMATTER" "Ljava/util/function/BiFunction;" ∈ xW) (hd : decode cc pc = .ok (.getstatic a, 3))
    (k : XW p l e Rm s m args below meth c dC dI A a0 n0 sV nL mc ms Zf (pc + 3) L (.retAddr 2000 :: st) S I J r cu su) : XW p l e Rm s m args below meth c dC dI A a0 n0 sV nL mc ms Zf pc L st S I J r cu su := by
  intro ls H locs ws tys h
  have k1 := k ls H locs ws tys (h.push (ok_cons trivial h.2.2.2.1))
  have hF := F
  obtain ⟨hx, hbb, -, hown, hts, -, hA, ⟨-, -, hZ, -⟩, -⟩ := hF
  exact va_gets hx hbb hZ h.2.1.2.2.2.1 hown (hts _ hl) (fun _ h => h) hd k1
theorem xs_slen (F : XFx p s m meth c args Rm cc own nL ini law sc mc ms A sV) (hlaw : law = true) (hd : decode cc pc = .ok (.arraylength, 1))
    (k : XW p l e Rm s m args below meth c dC dI A a0 n0 sV nL mc ms Zf (pc + 1) L (.int (nI sc.1) :: st) S I J r cu su) : XW p l e Rm s m args below meth c dC dI A a0 n0 sV nL mc ms Zf pc L (.retAddr 3000 :: st) S I J r cu su := by
  intro ls H locs ws tys h
  have k1 := k ls H locs ws tys (h.push (ok_cons trivial (ok_tl h.2.2.2.1)))
  have hF := F
  obtain ⟨hx, hbb, -, hown, hts, -, hA, -, hsc, -⟩ := hF
  obtain ⟨b, e1, hX, hbl, hbA⟩ := hsc hlaw
  show W p l e Rm s m args below meth c H locs cu su Zf (F0 m pc ls (sV 3000 :: st.map (xtr (xadr ws) sV)))
  rw [e1]
  exact va_slen hx hbb hX hbl hbA h.2.1.2.2.2.1 hd k1
theorem xs_sld (F : XFx p s m meth c args Rm cc own nL ini law sc mc ms A sV) (hlaw : law = true) {j : Int32} (hj : vp_in j sc.1) (hd : decode cc pc = .ok (.iaload, 1))
    (k : XW p l e Rm s m args below meth c dC dI A a0 n0 sV nL mc ms Zf (pc + 1) L (.int (sc.2 j.toNatClampNeg) :: st) S I J r cu su) : XW p l e Rm s m args below meth c dC dI A a0 n0 sV nL mc ms Zf pc L (.int j :: .retAddr 3000 :: st) S I J r cu su := by
  intro ls H locs ws tys h
  have k1 := k ls H locs ws tys (h.push (ok_cons trivial (ok_tl (ok_tl h.2.2.2.1))))
  have hF := F
  obtain ⟨hx, hbb, -, hown, hts, -, hA, -, hsc, -⟩ := hF
  obtain ⟨b, e1, hX, hbl, hbA⟩ := hsc hlaw
  show W p l e Rm s m args below meth c H locs cu su Zf (F0 m pc ls (.int j :: sV 3000 :: st.map (xtr (xadr ws) sV)))
  rw [e1]
  exact va_sld hx hbb hX hbl hbA h.2.1.2.2.2.1 hj hd k1
/-! switches -/
def swt (x : Int32) (d : Nat) : List (Int32 × Nat) → Nat
  | [] => d
  | (k, t) :: rest => if x = k then t else swt x d rest
theorem xsw_swt {nx : XN} {x : Int32} {d : Nat} : ∀ (cs : List (Int32 × Nat)), xsw nx L st S I J r cu su x d cs → nx (swt x d cs) L st S I J r cu su
  | [], h => h
  | (k, t) :: rest, h => by
    unfold swt
    by_cases e : x = k
    · rw [if_pos e]; exact h.1 e
    · rw [if_neg e]; exact xsw_swt rest (h.2 e)
theorem swt_out {x : Int32} {d : Nat} : ∀ (cs : List (Int32 × Nat)), (∀ c ∈ cs, x ≠ c.1) → swt x d cs = d
  | [], _ => rfl
  | (k, t) :: rest, h => by
    unfold swt
    rw [if_neg (h (k, t) List.mem_cons_self)]
    exact swt_out rest fun c hc => h c (List.mem_cons_of_mem _ hc)
theorem swt_in {x : Int32} {d : Nat} : ∀ (cs : List (Int32 × Nat)) (lo : Int) (j : Nat) (k : Int32) (t : Nat), (∀ (i : Nat) (c : Int32 × Nat), cs[i]? = some c → c.1.toInt = lo + i) → cs[j]? = some (k, t) → x = k → swt x d cs = t
  | [], lo, j, k, t, _, h, _ => by simp at h
  | (k0, t0) :: rest, lo, j, k, t, hk, h, hx => by
    cases j with
    | zero => simp at h; unfold swt; rw [if_pos (by rw [hx, h.1])]; exact h.2
    | succ j =>
      have h' : rest[j]? = some (k, t) := by simpa using h
      have h0 := hk 0 (k0, t0) rfl
      have h1 := hk (j + 1) (k, t) h
      unfold swt
      rw [if_neg (fun q => by rw [← hx, q] at h1; simp only at h0 h1; omega)]
      exact swt_in rest (lo + 1) j k t (fun i c hc => by have := hk (i + 1) c (by simpa using hc); omega) h' hx
theorem xs_tsw (F : XFx p s m meth c args Rm cc own nL ini law sc mc ms A sV) {x : Int32} {cs : List (Int32 × Nat)} {d len : Nat} {df lo hi : Int} {offs : Array Int} (hd : decode cc pc = .ok (.tableswitch df lo hi offs, len)) (h1 : (pc : Int) + df = d) (h2 : hi = lo + cs.length - 1) (h3 : ∀ j, j < cs.length → (cs.getD j (0, 0)).1.toInt = lo + j ∧ ∃ off, offs[j]? = some off ∧ (pc : Int) + off = (cs.getD j (0, 0)).2)
    (k : XW p l e Rm s m args below meth c dC dI A a0 n0 sV nL mc ms Zf (swt x d cs) L st S I J r cu su) : XW p l e Rm s m args below meth c dC dI A a0 n0 sV nL mc ms Zf pc L (.int x :: st) S I J r cu su := by
  intro ls H locs ws tys h
  have k1 := k ls H locs ws tys (h.push (ok_tl h.2.2.2.1))
  have hkk : ∀ (i : Nat) (c : Int32 × Nat), cs[i]? = some c → c.1.toInt = lo + i := fun i c hc => by
    have h4 := (h3 i (List.getElem?_eq_some_iff.mp hc).1).1
    rw [List.getD_eq_getElem?_getD, hc] at h4
    exact h4
  by_cases e : x.toInt < lo ∨ hi < x.toInt
  · have e2 : swt x d cs = d := swt_out cs fun c hc => by
      obtain ⟨i, hi'⟩ := List.getElem?_of_mem hc
      have h4 := hkk i c hi'
      have h5 := (List.getElem?_eq_some_iff.mp hi').1
      intro q
      rw [q] at e
      omega
    rw [e2] at k1
    exact lv_tableOut F.1 F.2.1 hd e h1 k1
  · have hj : (x.toInt - lo).toNat < cs.length := by omega
    obtain ⟨g1, off, g2, g3⟩ := h3 _ hj
    have e3 : cs[(x.toInt - lo).toNat]? = some (cs.getD (x.toInt - lo).toNat (0, 0)) := by
      rw [List.getD_eq_getElem?_getD, List.getElem?_eq_getElem hj]; rfl
    have e2 : swt x d cs = (cs.getD (x.toInt - lo).toNat (0, 0)).2 := swt_in cs lo _ (cs.getD (x.toInt - lo).toNat (0, 0)).1 _ hkk e3 (Int32.toInt_inj.mp (by rw [g1]; omega))
    rw [e2] at k1
    exact lv_tableIn F.1 F.2.1 hd (fun q => e (Or.inl q)) (fun q => e (Or.inr q)) g2 g3 k1
theorem lsw_off {x : Int32} {d pc : Nat} : ∀ cs : List (Int32 × Nat), Op.lookupswitch.offset (cs.map fun c => (c.1.toInt, (c.2 : Int) - pc)) ((d : Int) - pc) x.toInt = (swt x d cs : Int) - pc
  | [] => rfl
  | (k, t) :: rest => by
    by_cases e : x = k
    · subst e
      simp [Op.lookupswitch.offset, swt]
    · rw [List.map_cons, lv_osw e rfl, lsw_off rest, show swt x d ((k, t) :: rest) = if x = k then t else swt x d rest from rfl, if_neg e]
theorem xs_lsw (F : XFx p s m meth c args Rm cc own nL ini law sc mc ms A sV) {x : Int32} {cs : List (Int32 × Nat)} {d len : Nat} {df : Int} {ps : Array (Int × Int)} (hd : decode cc pc = .ok (.lookupswitch df ps, len)) (h1 : df = (d : Int) - pc) (h2 : ps.toList = cs.map fun c => (c.1.toInt, (c.2 : Int) - pc)) (h3 : (ps.toList.zip (ps.toList.drop 1)).all (fun (a, next) => a.1 < next.1) = true)
    (k : XW p l e Rm s m args below meth c dC dI A a0 n0 sV nL mc ms Zf (swt x d cs) L st S I J r cu su) : XW p l e Rm s m args below meth c dC dI A a0 n0 sV nL mc ms Zf pc L (.int x :: st) S I J r cu su := by
  intro ls H locs ws tys h
  have k1 := k ls H locs ws tys (h.push (ok_tl h.2.2.2.1))
  exact lv_lookup (off := (swt x d cs : Int) - pc) F.1 F.2.1 hd h3 (by rw [h2, h1]; exact lsw_off cs) (by omega) k1
end XOps
