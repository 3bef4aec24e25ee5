theorem xnest_all : (List.range 10).all (fun i => match xnl[i]? with
  | some q => decide (xlk (xnth.getD i 0) = some (.methodLinkNest q.1 q.2.1 q.2.2 "FreckleChart"))
  | none => false) = true := by decide +kernel
theorem xnl_len : xnl.length = 10 := by decide +kernel
set_option maxHeartbeats 4000000 in
/-- the statics, strings, links that the machine's start gives -/
theorem law_str {p : Program} {s : State} {m : MethodId} {meth : Method} {c : Code} {b L : Nat} {xs : Nat → Int32} (C0 : lw_At p s m meth c b L xs) : ∃ sV : Nat → Value, sV 3000 = .ref b ∧ XStr (fun q : Nat => s.heap.size ≤ q) sV s s.heap := by
  obtain ⟨hx, hb, hr, hml, hown, hts, hX, hbl, hlocks, hgv⟩ := C0
  have hfl := flat_of_before _ hgv
  have hA : ∀ a : Nat, a < s.heap.size → ¬ (fun q : Nat => s.heap.size ≤ q) a := fun a h => Nat.not_le.mpr h
  have hok : ∀ i, i < 29 → (Cond.exactly (xtm i) "java/lang/String" ∈ xFL ∧ Cond.eq (.field (xtm i) "java/lang/String" "coder" "B") (.int 0) ∈ xFL ∧ Cond.arrayOf (xfv i) .byte ∈ xFL ∧ Cond.eq (.length (xfv i)) (.int (Int32.ofNat (xlens.getD i 0))) ∈ xFL ∧ xlens.getD i 0 < 2 ^ 31 ∧ (∀ j, j < xlens.getD i 0 → Cond.eq (.elem (xfv i) (.int (Int32.ofNat j))) (.int ((xbyts.getD i []).getD j 0)) ∈ xFL) ∧ ∀ x, xstl[i]? = some x → xlk (xsth.getD i 0) = some (.stringRef x.1 x.2.1 x.2.2)) := by
    intro i hi
    have h := xsok_all i hi
    unfold xsok at h
    simp only [Bool.and_eq_true, decide_eq_true_eq] at h
    obtain ⟨⟨⟨⟨⟨⟨h1, h2⟩, h3⟩, h4⟩, h5⟩, h6⟩, h7⟩ := h
    refine ⟨List.mem_of_getElem? h1, List.mem_of_getElem? h2, List.mem_of_getElem? h3, List.mem_of_getElem? h4, h5, fun j hj => List.mem_of_getElem? (of_decide_eq_true (List.all_eq_true.mp h6 j (List.mem_range.mpr hj))), fun x hx => ?_⟩
    rw [hx] at h7
    exact of_decide_eq_true h7
  have h0 : ∀ i : Nat, ∃ q : Nat × Nat, i < 29 → (xtm i).eval #[Value.ref b] s none [] s = some (.ref q.1) ∧ va_O "java/lang/String" q.1 (fun q : Nat => s.heap.size ≤ q) s s.heap ∧ va_OF "java/lang/String" "coder" "B" (.int 0) q.1 (fun q : Nat => s.heap.size ≤ q) s s.heap ∧ va_OF "java/lang/String" "value" "[B" (.ref q.2) q.1 (fun q : Nat => s.heap.size ≤ q) s s.heap ∧ va_T .byte q.2 (xlens.getD i 0) (fun j => .int ((xbyts.getD i []).getD j 0)) (fun q : Nat => s.heap.size ≤ q) s s.heap := by
    intro i
    by_cases hi : i < 29
    · obtain ⟨k1, k2, k3, k4, k5, k6, -⟩ := hok i hi
      obtain ⟨a, c, cA, kA, q1, q2, q3, q4, q5, q6, -⟩ := Cond.exactly_spec (args := #[Value.ref b]) (first := s) (o := none) (s := s) (idx := []) (t := xtm i) (cls := "java/lang/String") (hfl _ k1)
      obtain ⟨t, ht, hT⟩ := va_Tof (f := fun j => .int ((xbyts.getD i []).getD j 0)) (A := fun q : Nat => s.heap.size ≤ q) k5 (hfl _ k3) (va_eqt (hfl _ k4)) (fun j hj => va_eqt (hfl _ (k6 j hj))) hA
      exact ⟨(a, t), fun _ => ⟨q1, ⟨cA, q3, q5, by rw [q6]; exact q2, hA a (Array.getElem?_eq_some_iff.mp q3).1⟩, vk_OFof q1 (va_eqt (hfl _ k2)) hA, vk_OFof q1 ht hA, hT⟩⟩
    · exact ⟨(0, 0), fun h => absurd h hi⟩
  obtain ⟨ad, had⟩ := Classical.axiomOfChoice h0
  have hw : ∀ (h : Nat) (w : Cond), xlk h = some w → w.before #[Value.ref b] s = true := fun h w q => hts w (xlk_in q)
  have hZ1 : va_Z "java/lang/String" "COMPACT_STRINGS" "Z" (.int 1) (fun q : Nat => s.heap.size ≤ q) s s.heap := va_Zof (hw xsz1.1 _ (by decide +kernel)) (hw xsz1.2.1 _ (by decide +kernel)) (va_eqi (hfl _ (by decide +kernel))) hA
  have hZ2 : va_Zq "jdk/internal/util/Preconditions" "SIOOBE_FORMATTER" "Ljava/util/function/BiFunction;" (fun q : Nat => s.heap.size ≤ q) s s.heap := va_Zqof (hw xsz1.2.2.1 _ (by decide +kernel)) (hw xsz1.2.2.2.1 _ (by decide +kernel)) (hfl _ (by decide +kernel)) hA
  obtain ⟨vP, hvP, hZP⟩ : ∃ vP : Value, (vP = .null ∨ ∃ b, vP = .ref b) ∧ va_Z "jdk/internal/util/Preconditions" "SIOOBE_FORMATTER" "Ljava/util/function/BiFunction;" vP (fun q : Nat => s.heap.size ≤ q) s s.heap := by
    rcases hZ2 with h | ⟨t, h⟩
    · exact ⟨_, Or.inl rfl, h⟩
    · exact ⟨_, Or.inr ⟨t, rfl⟩, h⟩
  refine ⟨fun i => if i < 29 then .ref (ad i).1 else if i < 1000 then .null else if i < 1029 then .ref (ad (i - 1000)).2 else if i = 2000 then vP else if i = 3000 then .ref b else .null, rfl, ⟨fun i => (ad i).1, fun i => (ad i).2, fun i hi => (had i hi).2, fun i hi => ⟨fun x hx => ?_, if_pos hi, ?_⟩⟩, hZ1, hZP, fun i => ?_, ?_, ?_, fun q hq => ?_⟩
  · refine vk_R.of (hw _ _ ((hok i hi).2.2.2.2.2.2 x hx)) ?_
    have h1 := (had i hi).1
    unfold xtm at h1
    rw [hx] at h1
    exact h1
  · show (if 1000 + i < 29 then Value.ref (ad (1000 + i)).1 else if 1000 + i < 1000 then .null else if 1000 + i < 1029 then .ref (ad (1000 + i - 1000)).2 else _) = _
    rw [if_neg (by omega), if_neg (by omega), if_pos (by omega), show 1000 + i - 1000 = i by omega]
  · dsimp only
    split
    · exact Or.inr ⟨_, rfl⟩
    split
    · exact Or.inl rfl
    split
    · exact Or.inr ⟨_, rfl⟩
    split
    · exact hvP
    split
    · exact Or.inr ⟨_, rfl⟩
    · exact Or.inl rfl
  · exact va_AO.of (hw (xch.getD 5 0) _ (by decide +kernel))
  · exact hw (xch.getD 6 0) (Cond.arrayOver (.array .long)) (by decide +kernel)
  · obtain ⟨i, hi⟩ := List.getElem?_of_mem hq
    have hlt := (List.getElem?_eq_some_iff.mp hi).1
    rw [xnl_len] at hlt
    have h1 := List.all_eq_true.mp xnest_all i (List.mem_range.mpr hlt)
    rw [hi] at h1
    exact va_Nw.of rfl (hw _ _ (of_decide_eq_true h1))
theorem xknown {args : Array Value} {s : State} (hts : ∀ w ∈ xW, w.before args s = true) : ∃ (dC : Nat → ClassId) (dI : Nat → Nat → Nat), ∀ (k : Nat) (q : vw_C), xcl[k]? = some q → u_Kn s q.1 q.2.1 q.2.2 (dC k) (dI k) := by
  have h : ∀ k : Nat, ∃ x : ClassId × (Nat → Nat), k < 11 → u_Kn s (xC k).1 (xC k).2.1 (xC k).2.2 x.1 x.2 := by
    intro k
    by_cases hk : k < 11
    · obtain ⟨c, i, hh⟩ := u_known (n := (xC k).2.2) hts (xlay_in hk) (hts _ (okK_in hk).1)
      exact ⟨(c, i), fun _ => hh⟩
    · exact ⟨(0, fun _ => 0), fun q => absurd q hk⟩
  obtain ⟨f, hf⟩ := Classical.axiomOfChoice h
  refine ⟨fun k => (f k).1, fun k => (f k).2, fun k q hq => ?_⟩
  have hk : k < 11 := (List.getElem?_eq_some_iff.mp hq).1
  have h2 := hf k hk
  have h3 := xC_at hk
  rw [h3] at hq
  cases hq
  exact h2
set_option maxHeartbeats 4000000 in
/-- the law over the machine, out of the law over the abstract machine -/
theorem law_W {p : Program} {e : Env} {s : State} {m : MethodId} {below : List Frame} {meth : Method} {c : Code} (l : Launch) {b L : Nat} {xs : Nat → Int32} (hL : L ≤ 3072) (C0 : lw_At p s m meth c b L xs)
    (LAW : ∀ (L : Nat) (xs : Nat → Int32), L ≤ 3072 → xrun (L, xs) (xcall 100) (fun v _ _ _ _ => v = some (.int 1)) 351 0 [.retAddr 3000, .float 0, .float 0, .float 0] [] [] (fun _ _ => 0) (fun _ _ => 0) (fun _ _ => none) 0 0) :
    W p l e room_1 s m #[Value.ref b] below meth c s.heap [] 0 0 (lw_Z below #[Value.ref b] s) (entryFrame m ([Value.ref b] : List Value).toArray 4) := by
  obtain ⟨sV, hs3, hStr⟩ := law_str C0
  obtain ⟨hx, hb, hr, hml, hown, hts, hX, hbl, hlocks, hgv⟩ := C0
  have htW : ∀ w ∈ xW, w.before #[Value.ref b] s = true := fun w hw => hts w (List.mem_filter.mp hw).1
  obtain ⟨dC, dI, hKn⟩ := xknown htW
  have F : XFx p s m meth c #[Value.ref b] room_1 code "FreckleChartLaw" 4 false true (L, xs) 600000 7302250 (fun q : Nat => s.heap.size ≤ q) sV :=
    ⟨hx, hb, hml, hown, htW, fun h => Bool.noConfusion h, fun _ h => h, hStr, fun _ => ⟨b, hs3, hX, hbl, Nat.not_le.mpr hbl⟩, Nat.le_of_ble_eq_true rfl, Nat.le_of_ble_eq_true rfl, Nat.le_refl _, Nat.le_refl _⟩
  have key := LAW L xs hL (XW p l e room_1 s m #[Value.ref b] below meth c dC dI (fun q : Nat => s.heap.size ≤ q) (fun _ => 0) 0 sV 4 600000 7302250 (lw_Z below #[Value.ref b] s)) (fun pc L' st S I J r cu su hw => xs_blk F (rt := ret) (d0 := 100) (Nat.le_of_ble_eq_true rfl) (Nat.le_of_ble_eq_true rfl) (fun k' as' S' I' J' r' Q' hc => xcall_met l dC dI sV 100 k' as' S' I' J' r' Q' hc) (fun _ _ _ _ _ _ _ _ _ q => q) (fun pc L' cu su v S' I' J' r' hQ hro hdec => by
    subst hQ
    intro ls H locs ws tys h
    refine va_forget (fun q hq => h.2.1.2.2.2.1.2.2 q hq) ?_
    refine W.widen h.2.2.2.2.1 h.2.2.2.2.2 ?_
    exact lw_ret hx hb hr hlocks hdec) _ pc L' st S I J r cu su (xfind_ok (p := fun pc is => xblkOk "FreckleChartLaw" code 4 ret false true pc is) rfl xlaw_blk) hw)
  have hcat := F.cat
  have fin := key ((lg_sl ([.ref b]) ++ List.replicate (4 - (lg_sl ([.ref b])).length) Slot.unset).toArray) s.heap [] [] [] ⟨?_, ⟨⟨hKn, fun k q h => by simp at h⟩, fun k q h => by simp at h, ⟨fun i j p q h => by simp at h, fun k q h => by simp at h⟩, va_S.rf, rfl, fun q t n h => by simp at h, fun q k v h => (by cases h), fun q n j h => by simp at h, Nat.le_refl _, fun k hk => by omega⟩, fun v hv => ?_, fun v hv => (by cases hv), Nat.zero_le _, Nat.zero_le _⟩
  · rw [lg_entry_eq]
    exact fin
  · have h1 := xent_ls (ad := xadr []) hcat (as := [.retAddr 3000]) (n := 4) (by decide)
    have e1 : ([Value.retAddr 3000] : XV).map (xtr (xadr []) sV) = [.ref b] := by show [sV 3000] = _; rw [hs3]
    rw [e1] at h1
    exact h1
  · simp at hv
    rcases hv with rfl | rfl <;> trivial
