/-! kept words, names -/
def kpL : List Nat := [kCoast, kBy, kOdds, kRock, kDeep, kCousin, kAt, kWide, kHigh, kInked, kSun, kRain, kVeil, kBare, kInk, kWash, kSail, kAny, kWhen, kLoop, kStop, kShows, kTan, kVeiled, kEnd]
def kp (c : Nat) : Bool := decide (c ∈ kpL)
theorem kp_t {c : Nat} : kp c = true ↔ c ∈ kpL := decide_eq_true_iff
def isN (F : Nat → Int32) (n s : Nat) : Bool := decide (kd F n s = 1 ∧ wc F n s ≠ 0 ∧ kp (wc F n s) = false)
theorem isN_t {F : Nat → Int32} {n s : Nat} : isN F n s = true ↔ kd F n s = 1 ∧ wc F n s ≠ 0 ∧ kp (wc F n s) = false := decide_eq_true_iff
theorem isW_f {F : Nat → Int32} {n s K : Nat} (h : kd F n s = 1) (e : isW F n s K = false) : wc F n s ≠ K := fun q => by
  rw [isW_t.mpr ⟨h, q⟩] at e; cases e
theorem stp_n {F : Nat → Int32} {n s : Nat} (h : stp F n s = none) : isW F n s kSun = false ∧ isW F n s kRain = false ∧ isW F n s kVeil = false ∧ isW F n s kBare = false ∧ isW F n s kInk = false ∧ isW F n s kWash = false ∧ isW F n s kSail = false ∧ isW F n s kAny = false ∧ isW F n s kWhen = false ∧ isW F n s kLoop = false ∧ isW F n s kStop = false := by
  unfold stp at h
  cases e0 : isW F n s kSun
  · cases e1 : isW F n s kRain
    · cases e2 : isW F n s kVeil
      · cases e3 : isW F n s kBare
        · cases e4 : isW F n s kInk
          · cases e5 : isW F n s kWash
            · cases e6 : isW F n s kSail
              · cases e7 : isW F n s kAny
                · cases e8 : isW F n s kWhen
                  · cases e9 : isW F n s kLoop
                    · cases e10 : isW F n s kStop
                      · exact ⟨rfl, rfl, rfl, rfl, rfl, rfl, rfl, rfl, rfl, rfl, rfl⟩
                      · simp [e0, e1, e2, e3, e4, e5, e6, e7, e8, e9, e10] at h
                    · simp [e0, e1, e2, e3, e4, e5, e6, e7, e8, e9] at h
                  · simp [e0, e1, e2, e3, e4, e5, e6, e7, e8] at h
                · simp [e0, e1, e2, e3, e4, e5, e6, e7] at h
              · simp [e0, e1, e2, e3, e4, e5, e6] at h
            · simp [e0, e1, e2, e3, e4, e5] at h
          · simp [e0, e1, e2, e3, e4] at h
        · simp [e0, e1, e2, e3] at h
      · simp [e0, e1, e2] at h
    · simp [e0, e1] at h
  · simp [e0] at h
theorem stp_s {F : Nat → Int32} {n s k : Nat} (h : stp F n s = some k) : k ≤ 10 ∧ ∃ K, K ∈ kpL ∧ isW F n s K = true := by
  unfold stp at h
  have go : ∀ {K v : Nat} {o : Option Nat}, (if isW F n s K = true then some v else o) = some k → v ≤ 10 → K ∈ kpL → (o = some k → k ≤ 10 ∧ ∃ K, K ∈ kpL ∧ isW F n s K = true) → k ≤ 10 ∧ ∃ K, K ∈ kpL ∧ isW F n s K = true := fun {K v o} h hv hK ho => by
    by_cases q : isW F n s K = true
    · rw [if_pos q] at h
      cases h
      exact ⟨hv, K, hK, q⟩
    · rw [if_neg q] at h
      exact ho h
  refine go h (by decide) (by decide) (fun h => go h (by decide) (by decide) (fun h => go h (by decide) (by decide) (fun h => go h (by decide) (by decide) (fun h => go h (by decide) (by decide) (fun h => go h (by decide) (by decide) (fun h => go h (by decide) (by decide) (fun h => go h (by decide) (by decide) (fun h => go h (by decide) (by decide) (fun h => go h (by decide) (by decide) (fun h => go h (by decide) (by decide) (fun h => by cases h)))))))))))
theorem tsw_s {F : Nat → Int32} {n s k : Nat} (h : tsw F n s = some k) : k ≤ 2 ∧ ∃ K, K ∈ kpL ∧ isW F n s K = true := by
  unfold tsw at h
  cases e0 : isW F n s kShows
  · cases e1 : isW F n s kTan
    · cases e2 : isW F n s kVeiled
      · simp [e0, e1, e2] at h
      · simp [e0, e1, e2] at h
        exact ⟨by omega, _, by decide, e2⟩
    · simp [e0, e1] at h
      exact ⟨by omega, _, by decide, e1⟩
  · simp [e0] at h
    exact ⟨by omega, _, by decide, e0⟩
theorem tsw_n {F : Nat → Int32} {n s : Nat} (h : tsw F n s = none) : isW F n s kShows = false ∧ isW F n s kTan = false ∧ isW F n s kVeiled = false := by
  unfold tsw at h
  cases e0 : isW F n s kShows
  · cases e1 : isW F n s kTan
    · cases e2 : isW F n s kVeiled
      · exact ⟨rfl, rfl, rfl⟩
      · simp [e0, e1, e2] at h
    · simp [e0, e1] at h
  · simp [e0] at h
theorem r235 {d : Nat} {Q : XQ} {S : XS} {I : XI} {J : XJ} {r : XR} {n s : Nat} {F : Nat → Int32} (hL : LAY S r) (h : RM I J n F s) (hk : kd F n s = 1) (hQ : Q (some (.int (b01 (kp (wc F n s))))) S I J r) : xcall (d + 5) 235 [.ref 65] S I J r Q := by
  have T : ∀ K, K ∈ kpL → isW F n s K = true → Q (some (.int (nI 1))) S I J r := fun K hK e => by
    rw [b01_t (kp_t.mpr (by rw [(isW_t.mp e).2]; exact hK))] at hQ
    exact hQ
  refine E235 hL (r213 hL h (K235_4 hL ?_))
  cases e0 : isW F n s kCoast
  case true => exact yes (by decide) (T _ (by decide) e0)
  refine nno rfl (r223 hL h (K235_11 hL ?_))
  cases e1 : isW F n s kBy
  case true => exact yes (by decide) (T _ (by decide) e1)
  refine nno rfl (r225 hL h (K235_18 hL ?_))
  cases e2 : isW F n s kOdds
  case true => exact yes (by decide) (T _ (by decide) e2)
  refine nno rfl (r227 hL h (K235_25 hL ?_))
  cases e3 : isW F n s kRock
  case true => exact yes (by decide) (T _ (by decide) e3)
  refine nno rfl (r230 hL h (K235_32 hL ?_))
  cases e4 : isW F n s kDeep
  case true => exact yes (by decide) (T _ (by decide) e4)
  refine nno rfl (r232 hL h (K235_39 hL ?_))
  cases e5 : isW F n s kCousin
  case true => exact yes (by decide) (T _ (by decide) e5)
  refine nno rfl (r236 hL h (K235_46 hL ?_))
  cases e6 : isW F n s kAt
  case true => exact yes (by decide) (T _ (by decide) e6)
  refine nno rfl (r237 hL h (K235_53 hL ?_))
  cases e7 : isW F n s kWide
  case true => exact yes (by decide) (T _ (by decide) e7)
  refine nno rfl (r238 hL h (K235_60 hL ?_))
  cases e8 : isW F n s kHigh
  case true => exact yes (by decide) (T _ (by decide) e8)
  refine nno rfl (r239 hL h (K235_67 hL ?_))
  cases e9 : isW F n s kInked
  case true => exact no (by decide) (T _ (by decide) e9)
  refine yes rfl (r240 hL h (K235_76 hL ?_))
  cases ea : stp F n s with
  | some k =>
    obtain ⟨hk10, K, hK, e⟩ := stp_s ea
    exact yes (by show (0 : Int32) ≤ nI k; rw [i_le, i_toI (by omega), i_z]; omega) (T _ hK e)
  | none =>
    refine no (by decide) (r241 hL h (K235_83 hL ?_))
    cases eb : tsw F n s with
    | some k =>
      obtain ⟨hk10, K, hK, e⟩ := tsw_s eb
      exact yes (by show (0 : Int32) ≤ nI k; rw [i_le, i_toI (by omega), i_z]; omega) (T _ hK e)
    | none =>
      refine no (by decide) (r244 hL h (K235_90 ?_))
      cases ec : isW F n s kEnd
      case true => exact no (by decide) (T _ (by decide) ec)
      have a := stp_n ea
      have b := tsw_n eb
      refine yes rfl ?_
      rw [b01_f (b := kp (wc F n s)) ?_] at hQ
      · exact hQ
      · refine Bool.eq_false_iff.mpr (fun q => ?_)
        have q := kp_t.mp q
        unfold kpL at q
        simp only [List.mem_cons, List.not_mem_nil, or_false] at q
        rcases q with q | q | q | q | q | q | q | q | q | q | q | q | q | q | q | q | q | q | q | q | q | q | q | q | q
        · exact isW_f hk e0 q
        · exact isW_f hk e1 q
        · exact isW_f hk e2 q
        · exact isW_f hk e3 q
        · exact isW_f hk e4 q
        · exact isW_f hk e5 q
        · exact isW_f hk e6 q
        · exact isW_f hk e7 q
        · exact isW_f hk e8 q
        · exact isW_f hk e9 q
        · exact isW_f hk a.1 q
        · exact isW_f hk a.2.1 q
        · exact isW_f hk a.2.2.1 q
        · exact isW_f hk a.2.2.2.1 q
        · exact isW_f hk a.2.2.2.2.1 q
        · exact isW_f hk a.2.2.2.2.2.1 q
        · exact isW_f hk a.2.2.2.2.2.2.1 q
        · exact isW_f hk a.2.2.2.2.2.2.2.1 q
        · exact isW_f hk a.2.2.2.2.2.2.2.2.1 q
        · exact isW_f hk a.2.2.2.2.2.2.2.2.2.1 q
        · exact isW_f hk a.2.2.2.2.2.2.2.2.2.2 q
        · exact isW_f hk b.1 q
        · exact isW_f hk b.2.1 q
        · exact isW_f hk b.2.2 q
        · exact isW_f hk ec q
theorem r234 {d : Nat} {Q : XQ} {S : XS} {I : XI} {J : XJ} {r : XR} {n s : Nat} {F : Nat → Int32} (hL : LAY S r) (hs : s ≤ n) (hn : n ≤ 900) (h : RM I J n F s) (hQ : Q (some (.int (b01 (isN F n s)))) S I J r) : xcall (d + 6) 234 [.ref 65] S I J r Q := by
  have F0 : isN F n s = false → Q (some (.int (nI 0))) S I J r := fun e => by rw [b01_f e] at hQ; exact hQ
  refine E234 hL ?_
  rw [h.2.2.2.1, nI_eqI (by have := kd_le (F := F) (n := n) (s := s); omega) (by decide)]
  by_cases q : kd F n s = 1
  · have l := ex_le (F := F) hs
    refine nno q ?_
    rw [(h.2.2.2.2.1 q).2, nI_ltI (by decide) (by omega)]
    by_cases q2 : 8 < ex F n s - s
    · exact yes q2 (F0 (Bool.eq_false_iff.mpr (fun e => (isN_t.mp e).2.1 ((wc_0 q).mpr q2))))
    · refine no q2 (r235 hL h q (K234_21 ?_))
      cases e : kp (wc F n s)
      · refine nno rfl ?_
        rw [b01_t (isN_t.mpr ⟨q, fun e => q2 ((wc_0 q).mp e), e⟩)] at hQ
        exact hQ
      · exact yes (by decide) (F0 (Bool.eq_false_iff.mpr (fun e2 => by have := (isN_t.mp e2).2.2; rw [e] at this; cases this)))
  · exact yes q (F0 (Bool.eq_false_iff.mpr (fun e => q (isN_t.mp e).1)))
/-! the class's names -/
def wat (k : Nat) : Nat → Nat
  | 0 => 0
  | i + 1 => if sch k i = 32 then 0 else 32 * wat k i + sch k i % 32
theorem k64 {d : Nat} {Q : XQ} {S : XS} {I : XI} {J : XJ} {r : XR} {cu su k c : Nat} (hk : k < 29) (hc : c < 1099511627776) (hb : ∀ i, i < strLen k → wat k i < 34359738368) (hT : (∃ i, i < strLen k ∧ sch k i = 32 ∧ wat k i = c) → Q (some (.int (nI 1))) S I J r) (hF : ¬ (∃ i, i < strLen k ∧ sch k i = 32 ∧ wat k i = c) → Q (some (.int (nI 0))) S I J r) :
    ∀ j i w2 w4 w6, i + j = strLen k → (∀ m, m < i → ¬ (sch k m = 32 ∧ wat k m = c)) → xrun z0 (xcall (d + 4)) Q 64 5 [.retAddr k, .long (lN c), w2, .long (lN (wat k i)), w4, .int (nI i), w6] [] S I J r cu su
  | 0, i, w2, w4, w6, hi, hm => by
    have l := (len_e k hk).2
    have e : i = strLen k := by omega
    subst e
    exact K64_5 hk (c41 hk (K64_11 hk (yes (Int32.le_refl _) (hF (fun ⟨m, h1, h2⟩ => hm m h1 h2)))))
  | j + 1, i, w2, w4, w6, hi, hm => by
    have l := (len_e k hk).2
    have e := sch_e k hk i (by omega)
    have hbi := hb i (by omega)
    refine K64_5 hk (c41 hk (K64_11 hk (no (by rw [nI_leI (by omega) (by omega)]; omega) (c43 hk (by omega) (K64_20 ?_)))))
    rw [nI_eqI (by omega) (by decide), nI_add]
    by_cases q : sch k i = 32
    · refine yes q ?_
      rw [cmp_e, lN_inj (by omega) (by omega)]
      by_cases q2 : wat k i = c
      · exact nno q2 (hT ⟨i, by omega, q, q2⟩)
      · have ih := fun w2 w4 w6 => k64 (d := d) (cu := cu) (su := su) hk hc hb hT hF j (i + 1) w2 w4 w6 (by omega) (fun m h1 => by
          rcases Nat.lt_or_ge m i with q3 | q3
          · exact hm m q3
          · have : m = i := by omega
            subst this; exact fun h => q2 h.2)
        rw [wat, if_pos q] at ih
        exact yes q2 (ih _ _ _)
    · have ih := fun w2 w4 w6 => k64 (d := d) (cu := cu) (su := su) hk hc hb hT hF j (i + 1) w2 w4 w6 (by omega) (fun m h1 => by
        rcases Nat.lt_or_ge m i with q3 | q3
        · exact hm m q3
        · have : m = i := by omega
          subst this; exact fun h => q h.1)
      rw [wat, if_neg q] at ih
      refine no q ?_
      rw [let_31 _ e.2.2.2.1, sh5 hbi (Nat.mod_lt _ (by decide))]
      exact ih _ _ _
theorem c64 {d : Nat} {Q : XQ} {S : XS} {I : XI} {J : XJ} {r : XR} {k c : Nat} (hk : k < 29) (hc : c < 1099511627776) (hb : ∀ i, i < strLen k → wat k i < 34359738368) (hT : (∃ i, i < strLen k ∧ sch k i = 32 ∧ wat k i = c) → Q (some (.int (nI 1))) S I J r) (hF : ¬ (∃ i, i < strLen k ∧ sch k i = 32 ∧ wat k i = c) → Q (some (.int (nI 0))) S I J r) : xcall (d + 5) 64 [.retAddr k, .long (lN c)] S I J r Q :=
  E64 (k64 hk hc hb hT hF (strLen k) 0 _ _ _ (by omega) (fun m h => absurd h (by omega)))
def wsL (k : Nat) : List Nat := ((List.range (strLen k)).filter (fun i => sch k i == 32)).map (wat k)
theorem wsL_t {k c : Nat} : (∃ i, i < strLen k ∧ sch k i = 32 ∧ wat k i = c) ↔ c ∈ wsL k := by
  unfold wsL
  simp only [List.mem_map, List.mem_filter, List.mem_range, beq_iff_eq]
  exact ⟨fun ⟨i, h1, h2, h3⟩ => ⟨i, ⟨h1, h2⟩, h3⟩, fun ⟨i, ⟨h1, h2⟩, h3⟩ => ⟨i, h1, h2, h3⟩⟩
theorem ws_6 : ∀ c, c ∈ wsL 6 → c ∈ kpL := by decide +kernel
theorem ws_7 : ∀ c, c ∈ wsL 7 → c ∈ kpL := by decide +kernel
theorem ws_kp : ∀ c, c ∈ kpL → c ∈ wsL 6 ∨ c ∈ wsL 7 := by decide +kernel
theorem c63 {d : Nat} {Q : XQ} {S : XS} {I : XI} {J : XJ} {r : XR} {a n s : Nat} {F : Nat → Int32} (h0 : LY5 S r a) (h : RD I J a n F s) (hT : isN F n s = true → Q (some (.int (nI 1))) S I J r) (hF : isN F n s = false → FA Q S I J r a (am F n s) s) : xcall (d + 6) 63 [.ref a] S I J r Q := by
  have bad : isN F n s = false → xcall (d + 5) 55 [.ref a] S I J r (fun v S1 I1 J1 r1 => xrun z0 (xcall (d + 5)) Q 63 55 [.ref a, .int (nI 0)] (v.toList ++ []) S1 I1 J1 r1 0 0) := fun q => by
    refine c55 h0 h ?_
    unfold FA
    exact K63_55 (yes rfl (hF q))
  refine E63 h0 ?_
  rw [h.2.2.2.1, nI_eqI (by have := kd_le (F := F) (n := n) (s := s); omega) (by decide)]
  by_cases q : kd F n s = 1
  · have hw := wc_lt q
    refine nno q ?_
    rw [h.2.2.2.2.1 q, cmp_0 (by omega)]
    by_cases q2 : wc F n s = 0
    · exact yes q2 (nno rfl (bad (Bool.eq_false_iff.mpr (fun e => (isN_t.mp e).2.1 q2))))
    · refine no q2 (c64 (by decide) hw (by decide +kernel) (fun e => K63_26 h0 (yes (by decide) (nno rfl (bad ?_)))) (fun e => K63_26 h0 (nno rfl ?_)))
      · refine Bool.eq_false_iff.mpr (fun e2 => ?_)
        have := (isN_t.mp e2).2.2
        rw [kp_t.mpr (ws_6 _ (wsL_t.mp e))] at this
        cases this
      · rw [h.2.2.2.2.1 q]
        refine c64 (by decide) hw (by decide +kernel) (fun e => K63_38 h0 (yes (by decide) (nno rfl (bad ?_)))) (fun e3 => K63_38 h0 (nno rfl (yes (by decide) (hT (isN_t.mpr ⟨q, q2, ?_⟩)))))
        · refine Bool.eq_false_iff.mpr (fun e2 => ?_)
          have := (isN_t.mp e2).2.2
          rw [kp_t.mpr (ws_7 _ (wsL_t.mp e))] at this
          cases this
        · refine Bool.eq_false_iff.mpr (fun e2 => ?_)
          rcases ws_kp _ (kp_t.mp e2) with h4 | h4
          · exact e (wsL_t.mpr h4)
          · exact e3 (wsL_t.mpr h4)
  · exact yes q (nno rfl (bad (Bool.eq_false_iff.mpr (fun e => q (isN_t.mp e).1))))
