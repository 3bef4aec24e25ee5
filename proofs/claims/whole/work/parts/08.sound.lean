section XOps
variable {p : Program} {l : Launch} {e : Env} {Rm : Room} {s : State} {m : MethodId} {args : Array Value} {below : List Frame} {meth : Method} {c : Code} {dC : Nat → ClassId} {dI : Nat → Nat → Nat} {A : Nat → Prop} {a0 : Nat → Nat} {n0 : Nat} {sV : Nat → Value} {nL mc ms : Nat} {Zf : State → Prop} {cc : ByteArray} {own : String} {ini law : Bool} {sc : Nat × (Nat → Int32)} {K : XK} {pc pc' : Nat} {L st : XV} {S : XS} {I : XI} {J : XJ} {r : XR} {cu su : Nat}
def xwk (k : Nat) : List Cond := Cond.code (xm k).1 (xm k).2.1 (xm k).2.2.1 (xm k).2.2.2 :: xW
def xroom (d k : Nat) : Room := { frames := d, cells := mck k, slots := msk k, locals := 40 * d }
abbrev XU : Type := XS × XI × XJ × XR × va_W × List (ClassId × FieldType)
def xpo (Q : XQ) (v : Option Value) (u : XU) : Prop := Q v u.1 u.2.1 u.2.2.1 u.2.2.2.1
def xB1 (dC : Nat → ClassId) (dI : Nat → Nat → Nat) (A : Nat → Prop) (n0 : Nat) (a0 : Nat → Nat) (u : XU) (t : State) : Prop := va_P (dC, dI) xcl u.2.2.2.2.1 t.heap ∧ va_K (dC, dI) xcl u.2.2.2.2.2 t ∧ va_D A u.2.2.2.2.1 ∧ XRel a0 n0 u.2.2.2.2.2 u.2.2.2.2.1 u.1 u.2.1 u.2.2.1 u.2.2.2.1
def xQc (ret : Option FieldType) (Q : XQ) (B : XU → State → Prop) (A : Nat → Prop) : Array Value → State → Outcome → State → Prop := match ret with
  | none => va_Qv (xpo Q none) B A
  | some .long => va_Ql (fun v => xpo Q (some (.long v))) B A
  | some _ => va_Qi (fun v => xpo Q (some (.int v))) B A
def xB0 (dC : Nat → ClassId) (dI : Nat → Nat → Nat) (sV : Nat → Value) (sz : Nat) (ws : va_W) (tys : List (ClassId × FieldType)) (args : XV) (S : XS) (I : XI) (J : XJ) (r : XR) (U : State) : Prop :=
  U.heap.size = sz ∧ va_P (dC, dI) xcl ws U.heap ∧ va_K (dC, dI) xcl tys U ∧ va_D (fun _ => True) ws ∧ XRel (xadr ws) S.length tys ws S I J r ∧ XStr (va_A ws sz) sV U U.heap ∧ ∀ v ∈ args, xok S v
/-- a method's contract, out of what the abstract machine does -/
def XMt (l : Launch) (d : Nat) (dC : Nat → ClassId) (dI : Nat → Nat → Nat) (sV : Nat → Value) (k : Nat) (args : XV) (S : XS) (I : XI) (J : XJ) (r : XR) (Q : XQ) : Prop :=
  ∀ (ws : va_W) (tys : List (ClassId × FieldType)) (sz : Nat), Met l (xm k).1 (xwk k) (xroom d k) (va_Pc (args.map (xtr (xadr ws) sV)) (xB0 dC dI sV sz ws tys args S I J r)) (xQc (xm k).2.2.2 Q (xB1 dC dI (va_A ws sz) S.length (xadr ws)) (va_A ws sz)) (mck k) (msk k) (va_A ws sz)
theorem XStr.calling {A : Nat → Prop} {U : State} {g : JFrame} {mk : MethodId} {a : Array Value} (h : XStr A sV U U.heap) : XStr A sV (U.calling g mk a) (U.calling g mk a).heap := by
  obtain ⟨⟨adK, adV, h1, h2⟩, h3, h4, h5, h6, h7, h8⟩ := h
  exact ⟨⟨adK, adV, h1.moved (u := U) (U := U.calling g mk a) (Vm.Alike.refl U.vm), fun i hi => ⟨fun x hx => vk_R.same (u := U) rfl ((h2 i hi).1 x hx), (h2 i hi).2⟩⟩, va_Z.moved (u := U) (U := U.calling g mk a) (Vm.Alike.refl U.vm) h3, va_Z.moved (u := U) (U := U.calling g mk a) (Vm.Alike.refl U.vm) h4, h5, va_AO.moved (u := U) (U := U.calling g mk a) (Vm.Alike.refl U.vm) h6, va_AOA.moved (u := U) (U := U.calling g mk a) (Vm.Alike.refl U.vm) h7, fun q hq => va_Nw.same (u := U) (U := U.calling g mk a) rfl rfl (h8 q hq)⟩
theorem XStr.at {A B : Nat → Prop} {H : Heap} {locs : List Loc} {U : State} (h : XStr A sV s s.heap) (hS : va_S A s.heap H locs) (hAB : ∀ q, B q → A q) (hU : U.heap = H) (hW : s.WarmedH U.vm) : XStr B sV U U.heap := by
  obtain ⟨⟨adK, adV, h1, h2⟩, h3, h4, h5, h6, h7, h8⟩ := h
  rw [hU]
  exact ⟨⟨adK, adV, ((h1.kept hS.2.1).narrow hAB).moved hW.alike, fun i hi => ⟨fun x hx => vk_R.warm hW ((h2 i hi).1 x hx), (h2 i hi).2⟩⟩, ((h3.kept hS.2.1).narrow hAB).moved hW.alike, ((h4.kept hS.2.1).narrow hAB).moved hW.alike, h5, h6.moved hW.alike, h7.moved hW.alike, fun q hq => va_Nw.warmM hW (h8 q hq)⟩
theorem xB0_blind {vs : List Value} {sz : Nat} {ws : va_W} {tys : List (ClassId × FieldType)} {as : XV} : FrameBlind (va_Pc vs (xB0 dC dI sV sz ws tys as S I J r)) := by
  intro a U g mk ⟨h0, h1, h2, h3, h4, h5, h6, h7⟩
  exact ⟨h0, h1, h2, va_K.moved (u := U) (U := U.calling g mk a) (Vm.Alike.refl U.vm) h3, h4, h5, h6.calling, h7⟩
theorem va_A_sub {H : Heap} {locs : List Loc} {ws : va_W} (hD : va_D A ws) (hS : va_S A s.heap H locs) (hA : ∀ q : Nat, s.heap.size ≤ q → A q) : ∀ q, va_A ws H.size q → A q := by
  intro q h
  rcases h with ⟨k, e, h⟩ | h
  · exact hD.2 k (q, e) h
  · exact hA q (Nat.le_trans hS.1 h)
theorem XRel.base {a0 : Nat → Nat} {n0 : Nat} {tys tys' : List (ClassId × FieldType)} {ws ws' : va_W} {S' : XS} {I' : XI} {J' : XJ} {r' : XR} (h1 : XRel a0 n0 tys ws S I J r) (h2 : XRel (xadr ws) S.length tys' ws' S' I' J' r') : XRel a0 n0 tys' ws' S' I' J' r' :=
  ⟨h2.1, h2.2.1, h2.2.2.1, h2.2.2.2.1, Nat.le_trans h1.2.2.2.2.1 h2.2.2.2.2.1, fun k hk => (h2.2.2.2.2.2 k (Nat.lt_of_lt_of_le hk h1.2.2.2.2.1)).trans (h1.2.2.2.2.2 k hk)⟩
theorem XRel.self {a0 : Nat → Nat} {n0 : Nat} {tys : List (ClassId × FieldType)} {ws : va_W} (h : XRel a0 n0 tys ws S I J r) : XRel (xadr ws) S.length tys ws S I J r := ⟨h.1, h.2.1, h.2.2.1, h.2.2.2.1, Nat.le_refl _, fun _ _ => rfl⟩
/-- the start of a call: what holds there -/
theorem xB0_start (F : XFx p s m meth c args Rm cc own nL ini law sc mc ms A sV) {ls : Array Slot} {H : Heap} {locs : List Loc} {ws : va_W} {tys : List (ClassId × FieldType)} (h : XH dC dI A s a0 n0 sV nL mc ms ls H locs ws tys L st S I J r cu su) {as : XV} (has : ∀ v ∈ as, xok S v) {U : State} (hU : U.heap = H) (hW : s.WarmedH U.vm) : xB0 dC dI sV H.size ws tys as S I J r U := by
  obtain ⟨-, ⟨hK, hP, hD, hS, hX⟩, -⟩ := h
  exact ⟨by rw [hU], by rw [hU]; exact hP, va_K.moved hW.alike hK, hD.weaken (fun _ _ _ _ => trivial), hX.self, F.2.2.2.2.2.2.2.1.at hS (va_A_sub hD hS F.2.2.2.2.2.2.1) hU hW, has⟩
/-- behind a call -/
theorem xs_after (F : XFx p s m meth c args Rm cc own nL ini law sc mc ms A sV) {k : Nat} {rest : XV} {Q' : XQ} (hrest : ∀ v ∈ rest, v ∈ st)
    (hcu : cu + mck k ≤ mc) (hsu : su + msk k ≤ ms)
    (hrun : ∀ (ls : Array Slot) (H : Heap) (locs : List Loc) (ws : va_W) (tys : List (ClassId × FieldType)), XH dC dI A s a0 n0 sV nL mc ms ls H locs ws tys L st S I J r cu su → ∃ a : Array Value, va_Run p l e Rm s m args below meth c H locs cu su (mck k) (msk k) (F0 m pc ls (st.map (xtr (xadr ws) sV))) (rest.map (xtr (xadr ws) sV)) (xQc (xm k).2.2.2 Q' (xB1 dC dI (va_A ws H.size) S.length (xadr ws)) (va_A ws H.size) a) (va_A ws H.size))
    (hK : ∀ (v : Option Value) (S' : XS) (I' : XI) (J' : XJ) (r' : XR), Q' v S' I' J' r' → XW p l e Rm s m args below meth c dC dI A a0 n0 sV nL mc ms Zf (pc + 3) L (v.toList ++ rest) S' I' J' r' (cu + mck k) (su + msk k)) : XW p l e Rm s m args below meth c dC dI A a0 n0 sV nL mc ms Zf pc L st S I J r cu su := by
  intro ls H locs ws tys h
  obtain ⟨a, hr⟩ := hrun ls H locs ws tys h
  obtain ⟨hL, ⟨hKn, hP, hD, hS, hX⟩, hLo, hso, -, -⟩ := h
  have hF := va_A_sub hD hS F.2.2.2.2.2.2.1
  have hro : ∀ v ∈ rest, xok S v := fun v hv => hso v (hrest v hv)
  have go : ∀ (v : Option Value) (hv : ∀ w ∈ v.toList, ∀ (S : XS) (ad ad' : Nat → Nat), xok S w ∧ xtr ad sV w = w) (u : XU) (t : State) (H1 : Heap) (locs1 : List Loc), t.heap = H1 → s.vm.Alike t.vm → xpo Q' v u → xB1 dC dI (va_A ws H.size) S.length (xadr ws) u t → va_S A s.heap H1 locs1 → W p l e Rm s m args below meth c H1 locs1 (cu + mck k) (su + msk k) Zf (F0 m (pc + 3) ls (v.toList ++ rest.map (xtr (xadr ws) sV))) := by
    intro v hv u t H1 locs1 ht hvm hw ⟨hP1, hK1, hD1, hX1⟩ hS1
    rw [ht] at hP1
    have hK1 := va_K.moved hvm.symm hK1
    have had : ∀ k, k < S.length → xadr u.2.2.2.2.1 k = xadr ws k := hX1.2.2.2.2.2
    have hle : S.length ≤ u.1.length := hX1.2.2.2.2.1
    have k1 := hK v u.1 u.2.1 u.2.2.1 u.2.2.2.1 hw ls H1 locs1 u.2.2.2.2.1 u.2.2.2.2.2 ⟨hL.congr hLo had, ⟨hK1, hP1, hD1.weaken (fun _ q _ hq => hF q.1 hq), hS1, hX.base hX1⟩, fun w hw => xok_mono hle (hLo w hw), fun w hw => by
      rcases List.mem_append.mp hw with hw | hw
      · exact (hv w hw u.1 (xadr ws) (xadr ws)).1
      · exact xok_mono hle (hro w hw), hcu, hsu⟩
    have e1 : (v.toList ++ rest).map (xtr (xadr u.2.2.2.2.1) sV) = v.toList ++ rest.map (xtr (xadr ws) sV) := by
      rw [List.map_append, map_congr hro had]
      congr 1
      exact (List.map_congr_left (g := id) fun w hw => (hv w hw u.1 _ (xadr ws)).2).trans (List.map_id _)
    rw [e1] at k1
    exact k1
  cases hret : (xm k).2.2.2 with
  | none =>
    rw [hret] at hr
    exact va_callv (a := a) hr hS (fun q _ hq => hF q hq) hF (fun u t H1 locs1 ht hvm hw hB hz hk hS1 => go none (fun w hw => by cases hw) u t H1 locs1 ht hvm hw hB hS1)
  | some ty =>
    rw [hret] at hr
    by_cases hty : ty = .long
    · subst hty
      exact va_calll (a := a) hr hS (fun q _ hq => hF q hq) hF (fun v u t H1 locs1 ht hvm hw hB hz hk hS1 => go (some (.long v)) (fun w hw S ad ad' => by simp at hw; subst hw; exact ⟨trivial, rfl⟩) u t H1 locs1 ht hvm hw hB hS1)
    · have e : xQc (some ty) Q' (xB1 dC dI (va_A ws H.size) S.length (xadr ws)) (va_A ws H.size) = va_Qi (fun v => xpo Q' (some (.int v))) (xB1 dC dI (va_A ws H.size) S.length (xadr ws)) (va_A ws H.size) := by
        unfold xQc
        cases ty <;> first | rfl | exact absurd rfl hty
      rw [e] at hr
      exact va_calli (a := a) hr hS (fun q _ hq => hF q hq) hF (fun v u t H1 locs1 ht hvm hw hB hz hk hS1 => go (some (.int v)) (fun w hw S ad ad' => by simp at hw; subst hw; exact ⟨trivial, rfl⟩) u t H1 locs1 ht hvm hw hB hS1)
theorem goodIn_xW {w : Cond} (h : w ∈ xW) : w ∈ xW ∧ ((w.onTables && w.keeps) = true ∨ ∃ ty, w = .arrayClass ty) := ⟨h, good_of_word (List.mem_filter.mp h).2⟩
theorem goodIn_wk {k : Nat} (h : Cond.code (xm k).1 (xm k).2.1 (xm k).2.2.1 (xm k).2.2.2 ∈ xW) : GoodIn xW (xwk k) := fun w hw => by
  rcases List.mem_cons.mp hw with rfl | hw
  · exact goodIn_xW h
  · exact goodIn_xW hw
theorem okC_base {k : Nat} (h : okC k = true) (hts : ∀ w ∈ xW, w.before args s = true) {d0 : Nat} (hfr : d0 + 1 ≤ Rm.frames) (hlo : 40 * (d0 + 1) ≤ Rm.locals) : ((xroom d0 k).cells = mck k ∧ (xroom d0 k).slots = msk k ∧ (xroom d0 k).frames + 1 ≤ Rm.frames ∧ 8 + ((xm k).2.2.1 + 11) + (xroom d0 k).locals ≤ Rm.locals ∧ (∀ w ∈ xwk k, ∀ (a' : Array Value) (U : State), s.WarmedH U.vm → w.before a' U = true) ∧ Cond.code (xm k).1 (xm k).2.1 (xm k).2.2.1 (xm k).2.2.2 ∈ xwk k) ∧
    (Cond.code (xm k).1 (xm k).2.1 (xm k).2.2.1 (xm k).2.2.2).before args s = true ∧ (Cond.initialized (xm k).1.cls).before args s = true ∧ ((xm k).1.cls ≠ "java/lang/invoke/MethodHandle" ∧ (xm k).1.cls ≠ "java/lang/invoke/VarHandle") ∧ (∀ sig, parseMethodDescriptor (xm k).1.desc = some sig → (xh k).2.2.2.2.1 = sig.parameters.length) := by
  unfold okC at h
  have h0 : xmok k = true := by
    simp only [Bool.and_eq_true] at h
    exact h.1.1.1.1.1
  generalize xh k = z at h ⊢
  obtain ⟨ic, ii, ix, isel, n, kd⟩ := z
  simp only [Bool.and_eq_true, decide_eq_true_eq] at h
  obtain ⟨⟨⟨⟨⟨-, h2⟩, h3⟩, h4⟩, h5⟩, -⟩ := h
  have h1 := xm_in h0
  refine ⟨⟨rfl, rfl, hfr, by show 8 + (_ + 11) + 40 * d0 ≤ _; omega, pay_in hts (goodIn_wk h1), List.mem_cons_self⟩, hts _ h1, hts _ (xw_in h2), h3, fun sig hs => ?_⟩
  rw [hs] at h4
  exact (Option.some.inj h4).symm
theorem okC_virt {k : Nat} (h : okC k = true) (hk : (xh k).2.2.2.2.2 = 0) : Cond.instanceMethod (xm k).1 ∈ xW ∧ Cond.selects (xm k).1.cls (xm k).1 (xm k).1 ∈ xW := by
  unfold okC at h
  generalize xh k = z at h hk
  obtain ⟨ic, ii, ix, isel, n, kd⟩ := z
  simp only at hk
  subst hk
  simp only [Bool.and_eq_true] at h
  exact ⟨xw_in h.2.1, xw_in h.2.2⟩
theorem okC_stat {k : Nat} (h : okC k = true) (hk : (xh k).2.2.2.2.2 = 1) : Cond.static (xm k).1 ∈ xW := by
  unfold okC at h
  generalize xh k = z at h hk
  obtain ⟨ic, ii, ix, isel, n, kd⟩ := z
  simp only at hk
  subst hk
  simp only [Bool.and_eq_true] at h
  exact xw_in h.2
theorem okC_init {k : Nat} (h : okC k = true) (hk : (xh k).2.2.2.2.2 = 2) : Cond.instanceMethod (xm k).1 ∈ xW ∧ (xm k).1.name = "<init>" ∧ (xm k).2.2.2 = none := by
  unfold okC at h
  generalize xh k = z at h hk
  obtain ⟨ic, ii, ix, isel, n, kd⟩ := z
  simp only at hk
  subst hk
  simp only [Bool.and_eq_true, decide_eq_true_eq] at h
  exact ⟨xw_in h.2.1.1, h.2.1.2, h.2.2⟩
theorem rev_split {n q : Nat} {v : Value} {As : XV} (h : (st.take n).reverse = v :: As) {f : Value → Value} : st.map f = (As.map f).reverse ++ f v :: (st.drop n).map f := by
  have h1 : st.take n = As.reverse ++ [v] := by
    have h2 := congrArg List.reverse h
    simpa using h2
  have h3 : st = As.reverse ++ v :: st.drop n := by
    conv => lhs; rw [← List.take_append_drop n st, h1]
    simp
  conv => lhs; rw [h3]
  simp
theorem stat_split {n : Nat} {f : Value → Value} : st.map f = ((st.take n).reverse.map f).reverse ++ (st.drop n).map f := by
  rw [← List.map_reverse, List.reverse_reverse, ← List.map_append, List.take_append_drop]
theorem rev_len {n : Nat} {v : Value} {As : XV} (h : (st.take n).reverse = v :: As) (hn : n ≤ st.length) : As.length + 1 = n := by
  have h2 := congrArg List.length h
  simp at h2
  omega
theorem rest_ok {ad : Nat → Nat} (F : XFx p s m meth c args Rm cc own nL ini law sc mc ms A sV) {rest : XV} {ls : Array Slot} {v : List Value} (h8 : xsz rest ≤ 8) : 2 * (F0 m pc ls v).monitorRoom + ((rest.map (xtr ad sV)).map fun v => v.category).sum ≤ 8 := lv_room (by rw [xsz_sum F.cat]; exact h8)
/-- a virtual call of ours -/
theorem xs_callV (F : XFx p s m meth c args Rm cc own nL ini law sc mc ms A sV) {d0 k a n b q : Nat} {As : XV} {Q' : XQ} (hfr : d0 + 1 ≤ Rm.frames) (hlo : 40 * (d0 + 1) ≤ Rm.locals) (hok : okC k = true) (hkd : (xh k).2.2.2.2.2 = 0) (hl : Cond.methodLink own a (xm k).1 ∈ xW) (hb : b < 11) (hbk : (xC b).1 = (xm k).1.cls) (hn : n = (xh k).2.2.2.2.1 + 1) (hnl : n ≤ st.length) (hd : decode cc pc = .ok (.invokevirtual a, 3)) (hs8 : xsz (st.drop n) ≤ 8) (hcu : cu + mck k ≤ mc) (hsu : su + msk k ≤ ms)
    (hA : (st.take n).reverse = .ref q :: As) (hS : S[q]? = some (b, 0)) (hM : XMt l d0 dC dI sV k (st.take n).reverse S I J r Q')
    (hK : ∀ (v : Option Value) (S' : XS) (I' : XI) (J' : XJ) (r' : XR), Q' v S' I' J' r' → XW p l e Rm s m args below meth c dC dI A a0 n0 sV nL mc ms Zf (pc + 3) L (v.toList ++ st.drop n) S' I' J' r' (cu + mck k) (su + msk k)) : XW p l e Rm s m args below meth c dC dI A a0 n0 sV nL mc ms Zf pc L st S I J r cu su := by
  refine xs_after F (fun v hv => List.mem_of_mem_drop hv) hcu hsu (fun ls H locs ws tys h => ?_) hK
  obtain ⟨hb0, hcode, hini, hnm, hpar⟩ := okC_base hok F.2.2.2.2.1 hfr hlo
  obtain ⟨hi, hse⟩ := okC_virt hok hkd
  obtain ⟨cA, g1, -⟩ := h.2.1.2.2.2.2.at hS
  rw [xcell_obj hb] at g1
  have hts := F.2.2.2.2.1
  have hrec := va_recv h.2.1.1 h.2.1.2.1 (xC_at hb) g1
  rw [hA] at hM
  have hM1 := hM ws tys H.size
  have has : ∀ v ∈ (Value.ref q :: As), xok S v := fun v hv => h.2.2.2.1 v (by rw [← hA] at hv; exact List.mem_of_mem_take (List.mem_reverse.mp hv))
  have hlen : As.length + 1 = n := rev_len hA hnl
  refine ⟨_, va_runV (C := (xm k).1.cls) (b := xadr ws q) (As := As.map (xtr (xadr ws) sV)) (rest := (st.drop n).map (xtr (xadr ws) sV)) (Ts := xW) (n := (xh k).2.2.2.2.1) ⟨F.1, F.2.1, F.2.2.1, F.2.2.2.1, hts⟩ hM1 ⟨⟨hb0.1, hb0.2.1, hb0.2.2.1, hb0.2.2.2.1, hb0.2.2.2.2.1, hb0.2.2.2.2.2, hcode, hini, hnm, hpar, hts _ hl⟩, hts _ hi, hts _ hse⟩ ⟨xB0_blind, by rw [← hbk]; exact hrec, fun U hU hW => ⟨rfl, xB0_start F h has hU hW⟩⟩ rfl (by rw [List.length_map]; omega) h.1.1 (rev_split (q := q) hA) (rest_ok F hs8) hd ⟨by have := F.2.2.2.2.2.2.2.2.2.2.2.1; omega, by have := F.2.2.2.2.2.2.2.2.2.2.2.2; omega⟩⟩
theorem xs_callS (F : XFx p s m meth c args Rm cc own nL ini law sc mc ms A sV) {d0 k a n : Nat} {Q' : XQ} (hfr : d0 + 1 ≤ Rm.frames) (hlo : 40 * (d0 + 1) ≤ Rm.locals) (hok : okC k = true) (hkd : (xh k).2.2.2.2.2 = 1) (hl : Cond.methodLink own a (xm k).1 ∈ xW) (hn : n = (xh k).2.2.2.2.1) (hnl : n ≤ st.length) (hd : decode cc pc = .ok (.invokestatic a, 3)) (hs8 : xsz (st.drop n) ≤ 8) (hcu : cu + mck k ≤ mc) (hsu : su + msk k ≤ ms)
    (hM : XMt l d0 dC dI sV k (st.take n).reverse S I J r Q')
    (hK : ∀ (v : Option Value) (S' : XS) (I' : XI) (J' : XJ) (r' : XR), Q' v S' I' J' r' → XW p l e Rm s m args below meth c dC dI A a0 n0 sV nL mc ms Zf (pc + 3) L (v.toList ++ st.drop n) S' I' J' r' (cu + mck k) (su + msk k)) : XW p l e Rm s m args below meth c dC dI A a0 n0 sV nL mc ms Zf pc L st S I J r cu su := by
  refine xs_after F (fun v hv => List.mem_of_mem_drop hv) hcu hsu (fun ls H locs ws tys h => ?_) hK
  obtain ⟨hb0, hcode, hini, hnm, hpar⟩ := okC_base hok F.2.2.2.2.1 hfr hlo
  have hst := okC_stat hok hkd
  have hts := F.2.2.2.2.1
  have hM1 := hM ws tys H.size
  have has : ∀ v ∈ (st.take n).reverse, xok S v := fun v hv => h.2.2.2.1 v (List.mem_of_mem_take (List.mem_reverse.mp hv))
  refine ⟨_, va_runS (As := (st.take n).reverse.map (xtr (xadr ws) sV)) (rest := (st.drop n).map (xtr (xadr ws) sV)) (Ts := xW) (n := (xh k).2.2.2.2.1) ⟨F.1, F.2.1, F.2.2.1, F.2.2.2.1, hts⟩ hM1 ⟨⟨hb0.1, hb0.2.1, hb0.2.2.1, hb0.2.2.2.1, hb0.2.2.2.2.1, hb0.2.2.2.2.2, hcode, hini, hnm, hpar, hts _ hl⟩, hts _ hst⟩ ⟨xB0_blind, fun U hU hW => ⟨rfl, xB0_start F h has hU hW⟩⟩ rfl (by simp; omega) h.1.1 stat_split (rest_ok F hs8) hd ⟨by have := F.2.2.2.2.2.2.2.2.2.2.2.1; omega, by have := F.2.2.2.2.2.2.2.2.2.2.2.2; omega⟩⟩
theorem xs_callI (F : XFx p s m meth c args Rm cc own nL ini law sc mc ms A sV) {d0 k a n q : Nat} {As : XV} {Q' : XQ} (hfr : d0 + 1 ≤ Rm.frames) (hlo : 40 * (d0 + 1) ≤ Rm.locals) (hok : okC k = true) (hkd : (xh k).2.2.2.2.2 = 2) (hl : Cond.methodLink own a (xm k).1 ∈ xW ∨ (own, a, (xm k).1) ∈ xnl) (hn : n = (xh k).2.2.2.2.1 + 1) (hnl : n ≤ st.length) (hd : decode cc pc = .ok (.invokespecial a, 3)) (hs8 : xsz (st.drop n) ≤ 8) (hcu : cu + mck k ≤ mc) (hsu : su + msk k ≤ ms)
    (hA : (st.take n).reverse = .ref q :: As) (hM : XMt l d0 dC dI sV k (st.take n).reverse S I J r Q')
    (hK : ∀ (v : Option Value) (S' : XS) (I' : XI) (J' : XJ) (r' : XR), Q' v S' I' J' r' → XW p l e Rm s m args below meth c dC dI A a0 n0 sV nL mc ms Zf (pc + 3) L (v.toList ++ st.drop n) S' I' J' r' (cu + mck k) (su + msk k)) : XW p l e Rm s m args below meth c dC dI A a0 n0 sV nL mc ms Zf pc L st S I J r cu su := by
  refine xs_after F (fun v hv => List.mem_of_mem_drop hv) hcu hsu (fun ls H locs ws tys h => ?_) hK
  obtain ⟨hb0, hcode, hini, hnm, hpar⟩ := okC_base hok F.2.2.2.2.1 hfr hlo
  obtain ⟨hi, hnam, hret⟩ := okC_init hok hkd
  have hts := F.2.2.2.2.1
  rw [hA] at hM
  have hM1 := hM ws tys H.size
  rw [hret] at hb0 hcode
  have has : ∀ v ∈ (Value.ref q :: As), xok S v := fun v hv => h.2.2.2.1 v (by rw [← hA] at hv; exact List.mem_of_mem_take (List.mem_reverse.mp hv))
  have hlen : As.length + 1 = n := rev_len hA hnl
  rcases hl with hl | hl
  · refine ⟨_, va_runI (b := xadr ws q) (As := As.map (xtr (xadr ws) sV)) (rest := (st.drop n).map (xtr (xadr ws) sV)) (Ts := xW) (n := (xh k).2.2.2.2.1) ⟨F.1, F.2.1, F.2.2.1, F.2.2.2.1, hts⟩ hM1 ⟨⟨hb0.1, hb0.2.1, hb0.2.2.1, hb0.2.2.2.1, hb0.2.2.2.2.1, hb0.2.2.2.2.2, hcode, hini, hnm, hpar, hts _ hl⟩, hnam, hts _ hi⟩ ⟨xB0_blind, fun U hU hW => ⟨rfl, xB0_start F h has hU hW⟩⟩ rfl (by rw [List.length_map]; omega) h.1.1 (rev_split (q := q) hA) (rest_ok F hs8) hd ⟨by have := F.2.2.2.2.2.2.2.2.2.2.2.1; omega, by have := F.2.2.2.2.2.2.2.2.2.2.2.2; omega⟩⟩
  · refine ⟨_, va_runIN (host := "FreckleChart") (b := xadr ws q) (As := As.map (xtr (xadr ws) sV)) (rest := (st.drop n).map (xtr (xadr ws) sV)) (Ts := xW) (n := (xh k).2.2.2.2.1) ⟨F.1, F.2.1, F.2.2.1, F.2.2.2.1, hts⟩ hM1 ⟨⟨hb0, hcode, hini, hnm, hpar, va_Nw.use rfl (F.2.2.2.2.2.2.2.1.2.2.2.2.2.2 _ hl)⟩, hnam, hts _ hi⟩ ⟨xB0_blind, fun U hU hW => ⟨rfl, xB0_start F h has hU hW⟩⟩ rfl (by rw [List.length_map]; omega) h.1.1 (rev_split (q := q) hA) (rest_ok F hs8) hd ⟨by have := F.2.2.2.2.2.2.2.2.2.2.2.1; omega, by have := F.2.2.2.2.2.2.2.2.2.2.2.2; omega⟩⟩
/-- a call of a string constant's own -/
theorem xs_callX (F : XFx p s m meth c args Rm cc own nL ini law sc mc ms A sV) {d0 k a n i : Nat} {As : XV} {Q' : XQ} (hfr : d0 + 1 ≤ Rm.frames) (hlo : 40 * (d0 + 1) ≤ Rm.locals) (hok : okC k = true) (hkd : (xh k).2.2.2.2.2 = 0) (hl : Cond.methodLink own a (xm k).1 ∈ xW) (hbk : "java/lang/String" = (xm k).1.cls) (hn : n = (xh k).2.2.2.2.1 + 1) (hnl : n ≤ st.length) (hd : decode cc pc = .ok (.invokevirtual a, 3)) (hs8 : xsz (st.drop n) ≤ 8) (hcu : cu + mck k ≤ mc) (hsu : su + msk k ≤ ms)
    (hA : (st.take n).reverse = .retAddr i :: As) (hi29 : i < 29) (hM : XMt l d0 dC dI sV k (st.take n).reverse S I J r Q')
    (hK : ∀ (v : Option Value) (S' : XS) (I' : XI) (J' : XJ) (r' : XR), Q' v S' I' J' r' → XW p l e Rm s m args below meth c dC dI A a0 n0 sV nL mc ms Zf (pc + 3) L (v.toList ++ st.drop n) S' I' J' r' (cu + mck k) (su + msk k)) : XW p l e Rm s m args below meth c dC dI A a0 n0 sV nL mc ms Zf pc L st S I J r cu su := by
  refine xs_after F (fun v hv => List.mem_of_mem_drop hv) hcu hsu (fun ls H locs ws tys h => ?_) hK
  obtain ⟨hb0, hcode, hini, hnm, hpar⟩ := okC_base hok F.2.2.2.2.1 hfr hlo
  obtain ⟨hi, hse⟩ := okC_virt hok hkd
  have hts := F.2.2.2.2.1
  obtain ⟨adK, adV, hE, h9⟩ := F.2.2.2.2.2.2.2.1.1
  obtain ⟨-, e1, -⟩ := h9 i hi29
  have hrec := hE.recv hi29 h.2.1.2.2.2.1
  rw [hA] at hM
  have hM1 := hM ws tys H.size
  have eA : (Value.retAddr i :: As).map (xtr (xadr ws) sV) = .ref (adK i) :: As.map (xtr (xadr ws) sV) := by
    rw [List.map_cons]
    show sV i :: _ = _
    rw [e1]
  rw [eA] at hM1
  have has : ∀ v ∈ (Value.retAddr i :: As), xok S v := fun v hv => h.2.2.2.1 v (by rw [← hA] at hv; exact List.mem_of_mem_take (List.mem_reverse.mp hv))
  have hlen : As.length + 1 = n := rev_len hA hnl
  have hsp := rev_split (q := 0) (f := xtr (xadr ws) sV) hA
  have e2 : xtr (xadr ws) sV (.retAddr i) = .ref (adK i) := e1
  rw [e2] at hsp
  refine ⟨_, va_runV (C := (xm k).1.cls) (b := adK i) (As := As.map (xtr (xadr ws) sV)) (rest := (st.drop n).map (xtr (xadr ws) sV)) (Ts := xW) (n := (xh k).2.2.2.2.1) ⟨F.1, F.2.1, F.2.2.1, F.2.2.2.1, hts⟩ hM1 ⟨⟨hb0.1, hb0.2.1, hb0.2.2.1, hb0.2.2.2.1, hb0.2.2.2.2.1, hb0.2.2.2.2.2, hcode, hini, hnm, hpar, hts _ hl⟩, hts _ hi, hts _ hse⟩ ⟨xB0_blind, by rw [← hbk]; exact hrec, fun U hU hW => ⟨rfl, xB0_start F h has hU hW⟩⟩ rfl (by rw [List.length_map]; omega) h.1.1 hsp (rest_ok F hs8) hd ⟨by have := F.2.2.2.2.2.2.2.2.2.2.2.1; omega, by have := F.2.2.2.2.2.2.2.2.2.2.2.2; omega⟩⟩
end XOps
