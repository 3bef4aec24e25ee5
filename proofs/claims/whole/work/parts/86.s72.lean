/-! the reference's steps read -/
def kmy (I I' : XI) : Prop := (∀ x i, x ≠ 65 → x ≠ 70 → I' x i = I x i) ∧ (∀ i, i < 1455 → I' 70 i = I 70 i) ∧ ∀ i, ¬ (12 ≤ i ∧ i ≤ 18) → i ≠ 26 → I' 65 i = I 65 i
theorem kmy.r (I : XI) : kmy I I := ⟨fun _ _ _ _ => rfl, fun _ _ => rfl, fun _ _ _ => rfl⟩
theorem kmy.t {I I' I2 : XI} (h : kmy I I') (h2 : kmy I' I2) : kmy I I2 := ⟨fun x i a b => (h2.1 x i a b).trans (h.1 x i a b), fun i a => (h2.2.1 i a).trans (h.2.1 i a), fun i a b => (h2.2.2 i a b).trans (h.2.2 i a b)⟩
theorem kmw.y {w : Nat} {I I' : XI} (h : kmw w I I') (hw : 1455 ≤ w) : kmy I I' := ⟨h.1, fun i a => h.2.1 i (by omega), fun i a _ => h.2.2 i a⟩
theorem mk.y {I I' : XI} (h : mk I I') : kmy I I' := h.w.y (Nat.le_refl 1455)
theorem kmy.u {I I' : XI} {i : Nat} {v : Int32} (h : kmy I I') (hi : 1455 ≤ i) : kmy I (up2 I' 70 i v) := ⟨fun x k a b => by rw [up_o b]; exact h.1 x k a b, fun k a => by rw [up_i (by omega)]; exact h.2.1 k a, fun k a b => by rw [up_o (by decide)]; exact h.2.2 k a b⟩
theorem kmy.w {I I' : XI} {v : Int32} (h : kmy I I') : kmy I (up2 I' 65 26 v) := ⟨fun x k a b => by rw [up_o a]; exact h.1 x k a b, fun k a => by rw [up_o (by decide)]; exact h.2.1 k a, fun k a b => by rw [up_i b]; exact h.2.2 k a b⟩
theorem kmy.fmk {I I' : XI} {k s : Nat} (h : kmy I I') : kmy I (fm I' k s) := h.t ((kmw.r 1455 I').fmk.y (Nat.le_refl _))
def SR (I : XI) (J : XJ) (n : Nat) (F : Nat → Int32) (s L T : Nat) (Y : YY) (B : Nat → Int32) (W : Nat → Int64) : Prop := RM I J n F s ∧ GM I ∧ I 65 26 = nI T ∧ YM (I 70) 1455 L Y ∧ (∀ i, i < 1380 → I 70 i = B i) ∧ ∀ k, k < bn B 3 → J 72 k = W k
theorem SR.a {I I' : XI} {J J' : XJ} {n s s' L T : Nat} {F B : Nat → Int32} {Y : YY} {W : Nat → Int64} (h : SR I J n F s L T Y B W) (k : mk I I') (j : jk 65 19 J J') (d : RM I' J' n F s') : SR I' J' n F s' L T Y B W := by
  have e : I' 70 = I 70 := funext fun i => k 70 i (by omega)
  refine ⟨d, h.2.1.k k, (k 65 26 (by omega)).trans h.2.2.1, ?_, ?_, wj j h.2.2.2.2.2⟩
  · rw [e]; exact h.2.2.2.1
  · rw [e]; exact h.2.2.2.2.1
/-- the lines so far: q are open, their numbers P -/
def IV (L T : Nat) (Y : YY) (q : Nat) (P : Nat → Nat) : Prop := LT L T q P ∧ stc Y L = T ∧ ∀ j, j < q → ∃ k, Y (P j) 0 = nI k ∧ 10 ≤ k ∧ k ≤ 14
def PE (Q : XQ) (S : XS) (I : XI) (J : XJ) (r : XR) (R : YR) : Prop := ∀ e, R = .error e → ∀ I' J', kmy I I' → jk 65 19 J J' → bd I' e.1 e.2 → BM I' → Q none S I' J' r
def PO (Q : XQ) (S : XS) (I : XI) (J : XJ) (r : XR) (n : Nat) (F B : Nat → Int32) (W : Nat → Int64) (R : YR) (s : Nat) (Y : YY) (m : Nat) (P : Nat → Nat) : Prop := ∀ I' J' j' s' L' T' Y' P', kmy I I' → jk 65 19 J J' → s < s' → s' ≤ n → n < s' + j' → SR I' J' n F s' L' T' Y' B W → IV L' T' Y' m P' → (∀ i, i < m → P' i = P i ∧ stc Y' (P i) = stc Y (P i)) → yMain F n (bn B 3) (ce B) W j' s' L' T' Y' m P' = R → Q none S I' J' r
def RSP (m D : Nat) : Prop := ∀ (Q : XQ) (S : XS) (r : XR) (n : Nat) (F B : Nat → Int32) (W : Nat → Int64) (R : YR) (j s L T : Nat) (Y : YY) (P : Nat → Nat) (I : XI) (J : XJ), LAY S r → n ≤ 300 → s ≤ n → n < s + j → WF B → SR I J n F s L T Y B W → IV L T Y m P → (m = 0 → kd F n s ≠ 0) → (m ≠ 0 → isW F n s kEnd = false) → yMain F n (bn B 3) (ce B) W j s L T Y m P = R → PE Q S I J r R → PO Q S I J r n F B W R s Y m P → xcall D 255 [.ref 65, .int (nI m)] S I J r Q
theorem r215a {d : Nat} {Q : XQ} {S : XS} {I : XI} {J : XJ} {r : XR} {K : Int64} (hL : LAY S r) (h : ∀ b : Int32, Q (some (.int b)) S I J r) : xcall (d + 1) 215 [.ref 65, .long K] S I J r Q := E215 hL ⟨fun _ => h _, fun _ => ⟨fun _ => h _, fun _ => h _⟩⟩
theorem r244a {d : Nat} {Q : XQ} {S : XS} {I : XI} {J : XJ} {r : XR} (hL : LAY S r) (h : ∀ b : Int32, (b = 0 ∨ b = 1) → Q (some (.int b)) S I J r) : xcall (d + 3) 244 [.ref 65] S I J r Q :=
  E244 (r214 (p := 101) (q := 110) (u := 100) (v := 0) (w := 0) (x := 0) (by decide) (by decide) (by decide) (by decide) (by decide) (by decide) (K244_13 hL (E215 hL ⟨fun _ => K244_16 ⟨Or.inl rfl, h _ (Or.inl rfl)⟩, fun _ => ⟨fun _ => K244_16 ⟨Or.inl rfl, h _ (Or.inl rfl)⟩, fun _ => K244_16 ⟨Or.inr rfl, h _ (Or.inr rfl)⟩⟩⟩)))
set_option maxHeartbeats 1000000 in
theorem rs_step {m D : Nat} (hm : m ≤ 3) (ih : m < 3 → RSP (m + 1) (D + 9)) : RSP m (D + 10) := by
  intro Q S r n F B W R j s L T Y P I J hL hn hs hj wf h iv hm0 hme hR hE hO
  have hce := ce_le wf
  have hb3 := wf.c.2
  obtain ⟨⟨b1, b2, b3, b4⟩, bt, b5⟩ := iv
  have n1 := nxt_le (F := F) hs
  have n2 := nxt_le (F := F) n1.2.1
  obtain ⟨j, rfl⟩ : ∃ j0, j = j0 + 1 := ⟨j - 1, by omega⟩
  rw [yMain] at hR
  -- a bad text runs out
  have bad57 : ∀ (I1 : XI) (J1 : XJ) (x2 x3 : Int32) (w4 : Value), BM I1 → Q none S I1 J1 r → xrun z0 (xcall (D + 9)) Q 255 57 [.ref 65, .int (nI m), .int x2, .int x3, w4] [] S I1 J1 r 0 0 := fun I1 J1 x2 x3 w4 b q => K255_57 hL (yes b.ne (K255_83 hL (no b.nle q)))
  have bad31 : ∀ (I1 : XI) (J1 : XJ) (x2 x3 : Int32) (w4 : Value), BM I1 → Q none S I1 J1 r → xrun z0 (xcall (D + 9)) Q 255 31 [.ref 65, .int (nI m), .int x2, .int x3, w4] [] S I1 J1 r 0 0 := fun I1 J1 x2 x3 w4 b q => K255_31 hL (yes b.ne (bad57 I1 J1 x2 x3 w4 b q))
  have er : ∀ (c : Nat), 0 < c → c < 100 → R = .error (c, s) → Q none S (fm I c s) J r := fun c c0 c1 e => hE _ e _ J (kmy.r I).fmk (jk.r _ _ _) fm_d (fm_b c0 c1)
  refine E255 hL (r240 (d := D + 6) hL h.1 (K255_4 hL ?_))
  have hk0 : stp F n s = none → R = .error (am F n s, s) := fun es => by
    by_cases q0 : kd F n s = 0
    · rw [if_pos q0] at hR
      rw [if_neg (fun e => hm0 e q0)] at hR
      exact hR.symm
    · rw [if_neg q0] at hR
      by_cases qe : isW F n s kEnd = true
      · rw [if_pos qe] at hR
        by_cases qm : m = 0
        · rw [if_pos qm] at hR; exact hR.symm
        · rw [hme qm] at qe; cases qe
      · rw [if_neg qe, es] at hR
        exact hR.symm
  cases es : stp F n s with
  | none =>
    have e := hk0 es
    exact no (by decide) (yes (by decide) (no (by decide) (r220 (d := D + 7) hL h.1 h.2.1 (bad31 _ J _ _ _ (fm_b am_le.1 am_le.2) (er _ am_le.1 am_le.2 e)))))
  | some k =>
    obtain ⟨hk, K, hK, hKw⟩ := stp_s es
    have kd1 := (isW_t.mp hKw).1
    have hsn : s < n := (kd_1 kd1).1
    have qe : ¬ isW F n s kEnd = true := fun e => by
      have e1 := (isW_t.mp e).2
      revert es
      unfold stp
      have dk : ∀ K, K ∈ [kSun, kRain, kVeil, kBare, kInk, kWash, kSail, kAny, kWhen, kLoop, kStop] → kEnd ≠ K := by decide +kernel
      have nk : ∀ K, K ∈ [kSun, kRain, kVeil, kBare, kInk, kWash, kSail, kAny, kWhen, kLoop, kStop] → isW F n s K = false := fun K hK => Bool.eq_false_iff.mpr (fun e2 => by
        exact dk K hK (e1.symm.trans (isW_t.mp e2).2))
      rw [if_neg (by rw [nk _ (by decide)]; decide), if_neg (by rw [nk _ (by decide)]; decide), if_neg (by rw [nk _ (by decide)]; decide), if_neg (by rw [nk _ (by decide)]; decide), if_neg (by rw [nk _ (by decide)]; decide), if_neg (by rw [nk _ (by decide)]; decide), if_neg (by rw [nk _ (by decide)]; decide), if_neg (by rw [nk _ (by decide)]; decide), if_neg (by rw [nk _ (by decide)]; decide), if_neg (by rw [nk _ (by decide)]; decide), if_neg (by rw [nk _ (by decide)]; decide)]
      intro h; cases h
    rw [if_neg (by rw [kd1]; decide), if_neg qe, es] at hR
    dsimp only at hR
    have blk : ∀ b : Nat, (b = 1 ∧ (k = 8 ∨ k = 9)) ∨ (b = 0 ∧ ¬ (k = 8 ∨ k = 9)) → ∀ w4, xrun z0 (xcall (D + 9)) Q 255 31 [.ref 65, .int (nI m), .int (nI k), .int (nI b), w4] [] S I J r 0 0 := fun b hbk w4 => by
      refine K255_31 hL (nno h.2.1 ?_)
      rw [h.2.2.1, h.1.2.1, nI_eqI (by omega) (by decide)]
      by_cases t : T = 30
      · rw [if_pos t] at hR
        have b6 := fm_b (I := I) (k := 6) (s := s) (by decide) (by decide)
        exact nno t (r217 (d := D + 8) hL h.2.1 (bad57 _ J _ _ _ b6 (er 6 (by decide) (by decide) hR.symm)))
      rw [if_neg t] at hR
      refine yes t (K255_57 hL (nno h.2.1 ?_))
      rw [h.1.2.1]
      -- the step itself
      have body : ¬ ((k = 8 ∨ k = 9) ∧ m = 3) → xrun z0 (xcall (D + 9)) Q 255 83 [.ref 65, .int (nI m), .int (nI k), .int (nI b), w4] [] S I J r 0 0 := fun hq => by
        rw [if_neg hq] at hR
        refine K255_83 hL (yes h.2.1.le ?_)
        rw [h.2.2.1, nI_add, pk_mul, nI_add]
        have hw : 1455 + 9 * T + 8 < 1725 := by omega
        generalize hwd : 1455 + 9 * T = w at *
        have f0 : RM (up2 I 65 26 (nI (T + 1))) J n F s := h.1.i (fun _ => by rw [up_o (by decide)]) (fun i hi => by rw [up_i (by omega)]) rfl
        refine r207 (d := D + 7) hL (by omega) hs f0 (fun I1 J1 f1 j1 d1 => K255_118 hL ?_)
        rw [nI_clamp (by omega)]
        refine ⟨vp_in_nI (by omega) (by decide), ?_⟩
        have g1 : GM I1 := (f1 65 12 (by omega)).trans (by rw [up_i (by decide)]; exact h.2.1)
        have a26 : I1 65 26 = nI (T + 1) := (f1 65 26 (by omega)).trans up_e
        have a70 : ∀ i, I1 70 i = I 70 i := fun i => (f1 70 i (by omega)).trans (by rw [up_o (by decide)])
        have fr1 : kmy I I1 := (kmy.r I).w.t f1.y
        have fr2 : kmy I (up2 I1 70 w (nI k)) := fr1.u (by omega)
        have c2 : ∀ i, i < 1380 → up2 I1 70 w (nI k) 70 i = B i := fun i hi => by rw [up_i (by omega), a70]; exact h.2.2.2.2.1 i hi
        have w2 := wj j1 h.2.2.2.2.2
        have gyr := gy_rest (F := F) (s := nxt F n s) (y := yNew (clk k)) (k := k) (N := bn B 3) (c := ce B) (W := W) (Nat.le_refl _) n1.2.1
        have ykr := yk_rest (F := F) (n := n) (s := nxt F n s) (N := bn B 3) (c := ce B) (k := k) (y := yNew (clk k)) (W := W) hce.1 hk rfl
        -- a bad text behind the rest
        have bad132 : ∀ (I2 : XI) (J2 : XJ), BM I2 → (∀ I', kmy I2 I' → I' 65 12 = I2 65 12 → I' 65 13 = I2 65 13 → Q none S I' J2 r) → ∀ cu su, (xrun z0 (xcall (D + 9)) Q 255 142 [.ref 65, .int (nI m), .int (nI k), .int (nI b), .int (nI w)] [] S I2 J2 r cu su) := fun I2 J2 b2 hq cu su => by
          have fin : ∀ cu su, xrun z0 (xcall (D + 9)) Q 255 192 [.ref 65, .int (nI m), .int (nI k), .int (nI b), .int (nI w)] [] S I2 J2 r cu su := fun cu su => by
            refine K255_192 hL ?_
            rw [nI_add, nI_clamp (by omega)]
            exact ⟨vp_in_nI (by omega) (by decide), hq _ ((kmy.r I2).u (by omega)) (by rw [up_o (by decide)]) (by rw [up_o (by decide)])⟩
          have fin2 : xcall (D + 9) 244 [.ref 65] S I2 J2 r (fun v S1 I1 J1 r1 => xrun z0 (xcall (D + 9)) Q 255 179 [.ref 65, .int (nI m), .int (nI k), .int (nI b), .int (nI w)] (v.toList ++ [.ref 65]) S1 I1 J1 r1 cu su) := r244a (d := D + 6) hL (fun x _ => K255_179 hL (r222b (d := D + 8) hL b2 (K255_182 hL (r251a (d := D + 8) hL (fun x2 => K255_189 hL (r222b (d := D + 8) hL b2 (fin _ _)))))))
          refine K255_142 hL ?_
          rcases hbk with ⟨rfl, _⟩ | ⟨rfl, _⟩
          · exact no (by decide) (yes b2.ne (no (by decide) fin2))
          · exact yes rfl (yes rfl (fin _ _))
        refine r256 (d := D) (w := w) (k := k) (y := yNew (clk k)) (B := B) (W := W) hL (by omega) n1.2.1 wf (by omega) (by omega) (RM.u d1) g1.u c2 w2 hk up_e rfl ?_
        cases eo : yRest F n (nxt F n s) (yNew (clk k)) k (bn B 3) (ce B) W with
        | error e =>
          rw [eo] at hR
          have hR : R = .error e := hR.symm
          intro I2 J2 a1 a2 a3 c0 c1
          have g : BM I2 := a3.b c0 c1
          refine K255_132 hL (r251a (d := D + 8) hL (fun x => K255_139 hL (r222b (d := D + 8) hL g (bad132 I2 J2 g (fun I3 k3 v1 v2 => ?_) _ _))))
          exact hE e hR I3 J2 ((fr2.t (a1.y (by omega))).t k3) (j1.t a2) ⟨v1.trans a3.1, v2.trans a3.2⟩ ⟨e.1, v1.trans a3.1, c0, c1⟩
        | ok o =>
          obtain ⟨s2, y2⟩ := o
          rw [eo] at hR
          have hs2 := gyr s2 y2 eo
          obtain ⟨yk5, t, yt, ykt, yv⟩ := ykr s2 y2 eo
          intro I2 J2 a1 a2 a3 a4 a5
          replace a3 : RM I2 J2 n F s2 := a3
          replace a5 : RW (I2 70) w y2 := a5
          have n3 := nxt_le (F := F) hs2.2
          have a26' : I2 65 26 = nI (T + 1) := (a1.2.2 26 (by omega)).trans (by rw [up_o (by decide)]; exact a26)
          have low2 : ∀ i, i < w → I2 70 i = I 70 i := fun i hi => (a1.2.1 i (by omega)).trans (by rw [up_i (by omega)]; exact a70 i)
          have fr3 : kmy I I2 := fr2.t (a1.y (by omega))
          have j2 : jk 65 19 J J2 := j1.t a2
          refine K255_132 hL (r251 (d := D + 8) hL a3 (K255_139 hL ?_))
          cases ec : isC F n s2
          · -- no semicolon
            have hR : R = .error (am F n s2, s2) := by
              unfold qSem at hR
              dsimp only at hR
              rw [if_neg (by rw [ec]; decide)] at hR
              exact hR.symm
            have g := fm_b (I := I2) (s := s2) (am_le (F := F) (n := n) (s := s2)).1 am_le.2
            refine r222f (d := D + 6) hL a3 a4 (bad132 _ J2 g (fun I3 k3 v1 v2 => ?_) _ _)
            exact hE _ hR I3 J2 ((fr3.fmk).t k3) j2 ⟨v1.trans fm_d.1, v2.trans fm_d.2⟩ ⟨_, v1.trans fm_d.1, am_le.1, am_le.2⟩
          · unfold qSem at hR
            dsimp only at hR
            rw [if_pos ec] at hR
            dsimp only at hR
            have ec3 := (isC_t.mp ec).1
            have hlt2 : s2 < n := by
              rcases Nat.lt_or_ge s2 n with q | q
              · exact q
              · rw [kd_0.mpr q] at ec3; cases ec3
            have n3l := n3.2.2 hlt2
            have n1l := n1.2.2 hsn
            obtain ⟨kk, q1, q2, q3, q4, q5⟩ := a5
            have ett : kk = t := by
              have tlt : t < 100 := by
                rcases ykt with ⟨_, e⟩ | ⟨_, _, e⟩
                · have := cl_le hk
                  omega
                · omega
              rw [yt, nI_eqI (by omega) (by omega)] at q4
              exact q4.symm
            subst ett
            refine r222t (d := D + 6) hL (by omega) hs2.2 a3 a4 (fun I3 J3 f3 j3 d3 => ?_)
            have low3 : ∀ i, i < w → I3 70 i = I 70 i := fun i hi => (f3 70 i (by omega)).trans (low2 i hi)
            have c3 : ∀ i, i < 1380 → I3 70 i = B i := fun i hi => (low3 i (by omega)).trans (h.2.2.2.2.1 i hi)
            have hcg : ∀ i, i ≤ L → stc (yPut Y L y2) i = stc Y i := fun i hi => stc_cg i (fun q hq => by rw [yPut_o (by omega)])
            have hkE : y2 0 ≠ nI 15 := fun e => by rw [yt, nI_eqI (by omega) (by decide)] at e; omega
            have hst : stc (yPut Y L y2) (L + 1) = T + 1 := by
              rw [stc, hcg L (Nat.le_refl _), bt, yPut_e, if_neg hkE]
            have iv1 : IV (L + 1) (T + 1) (yPut Y L y2) (qN k m) (pN k m L P) := by
              refine ⟨?_, hst, ?_⟩
              · unfold qN pN
                by_cases o : k = 8 ∨ k = 9
                · rw [if_pos o, if_pos o]
                  refine ⟨by omega, by omega, ?_, fun i hi => ?_⟩
                  · rcases Nat.lt_or_ge m 3 with x | x
                    · omega
                    · exact absurd ⟨o, by omega⟩ hq
                  · show (if i = m then L else P i) < L + 1
                    by_cases ei : i = m
                    · rw [if_pos ei]; omega
                    · rw [if_neg ei]; have := b4 i (by omega); omega
                · rw [if_neg o, if_neg o]
                  exact ⟨by omega, by omega, b3, fun i hi => by have := b4 i hi; omega⟩
              · intro i hi
                by_cases o : k = 8 ∨ k = 9
                · unfold qN at hi
                  rw [if_pos o] at hi
                  unfold pN
                  rw [if_pos o]
                  show ∃ k_1, yPut Y L y2 (if i = m then L else P i) 0 = nI k_1 ∧ 10 ≤ k_1 ∧ k_1 ≤ 14
                  by_cases ei : i = m
                  · rw [if_pos ei, yPut_e]
                    refine ⟨kk, yt, ?_, q2⟩
                    rcases ykt with ⟨e1, e2⟩ | ⟨e1, e2, e3⟩
                    · rw [e2]; unfold clk; rw [if_neg (by omega)]; omega
                    · omega
                  · rw [if_neg ei]
                    have := b4 i (by omega)
                    rw [yPut_o (by omega)]
                    exact b5 i (by omega)
                · unfold qN at hi
                  rw [if_neg o] at hi
                  unfold pN
                  rw [if_neg o]
                  have := b4 i hi
                  rw [yPut_o (by omega)]
                  exact b5 i hi
            have rl3 : RZ (I3 70) w kk y2 := q5.c (fun i _ _ => f3 70 i (by omega)) (fun _ _ => rfl)
            rcases hbk with ⟨rfl, hk2⟩ | ⟨rfl, hk2⟩
            · -- a block
              have hm3 : m < 3 := by
                rcases Nat.lt_or_ge m 3 with x | x
                · exact x
                · exact absurd ⟨hk2, by omega⟩ hq
              have kk10 : 10 ≤ kk := by
                rcases ykt with ⟨e1, e2⟩ | ⟨e1, e2, e3⟩
                · rw [e2]; unfold clk; rw [if_neg (by omega)]; omega
                · omega
              have eq1 : qN k m = m + 1 := if_pos hk2
              have eP : pN k m L P m = L := by unfold pN; rw [if_pos hk2]; exact if_pos rfl
              have ym3 : YM (I3 70) 1455 (L + 1) (yPut Y L y2) := h.2.2.2.1.add bt (fun i hi => low3 i (by omega)) q1 q2 q3 yt (by rw [hwd]; exact rl3) (fun x => by omega) yk5
              have sr3 : SR I3 J3 n F (nxt F n s2) (L + 1) (T + 1) (yPut Y L y2) B W := ⟨d3, a4.k f3, (f3 65 26 (by omega)).trans a26', ym3, c3, wj (j2.t j3) h.2.2.2.2.2⟩
              -- the loop over the block's steps
              have loop : ∀ (g j4 s4 L4 T4 : Nat) (Y4 : YY) (P4 : Nat → Nat) (I4 : XI) (J4 : XJ) (cu su : Nat), n ≤ s4 + g → s < s4 → s4 ≤ n → n < s4 + j4 → SR I4 J4 n F s4 L4 T4 Y4 B W → IV L4 T4 Y4 (m + 1) P4 → P4 m = L → stc Y4 L = T → (∀ i, i < m → P4 i = P i ∧ stc Y4 (P i) = stc Y (P i)) → kmy I I4 → jk 65 19 J J4 → yMain F n (bn B 3) (ce B) W j4 s4 L4 T4 Y4 (m + 1) P4 = R → xrun z0 (xcall (D + 9)) Q 255 142 [.ref 65, .int (nI m), .int (nI k), .int (nI 1), .int (nI w)] [] S I4 J4 r cu su := by
                intro g
                induction g with
                | zero =>
                  intro j4 s4 L4 T4 Y4 P4 I4 J4 cu su e1 e2 e3 e4 sr iv4 eP4 est eP5 k4 j4j hR4
                  have es4 : s4 = n := by omega
                  refine K255_142 hL (no (by decide) (nno sr.2.1 (r244 (d := D + 6) hL sr.1 (K255_157 hL ?_))))
                  have ek : isW F n s4 kEnd = false := Bool.eq_false_iff.mpr (fun e => by have := (isW_t.mp e).1; rw [kd_0.mpr (by omega)] at this; cases this)
                  rw [ek]
                  refine nno rfl ?_
                  rw [nI_add]
                  refine ih hm3 _ S r n F B W R j4 s4 L4 T4 Y4 P4 I4 J4 hL hn e3 e4 wf sr iv4 (fun e => by omega) (fun _ => ek) hR4 (fun e he I' J' a b c d => K255_167 (bad132 I' J' d (fun I5 k5 v1 v2 => ?_) _ _)) (fun I' J' j' s' L' T' Y' P' x1 x2 x3 x4 => by omega)
                  obtain ⟨cc, dd1, dd2, dd3⟩ := d
                  exact hE e he I5 J' ((k4.t a).t k5) (j4j.t b) ⟨v1.trans c.1, v2.trans c.2⟩ ⟨cc, v1.trans dd1, dd2, dd3⟩
                | succ g ihg =>
                  intro j4 s4 L4 T4 Y4 P4 I4 J4 cu su e1 e2 e3 e4 sr iv4 eP4 est eP5 k4 j4j hR4
                  have n4 := nxt_le (F := F) e3
                  have n5 := nxt_le (F := F) n4.2.1
                  refine K255_142 hL (no (by decide) (nno sr.2.1 (r244 (d := D + 6) hL sr.1 (K255_157 hL ?_))))
                  cases ek : isW F n s4 kEnd
                  · refine nno rfl ?_
                    rw [nI_add]
                    refine ih hm3 _ S r n F B W R j4 s4 L4 T4 Y4 P4 I4 J4 hL hn e3 e4 wf sr iv4 (fun e => by omega) (fun _ => ek) hR4 (fun e he I' J' a b c d => K255_167 (bad132 I' J' d (fun I5 k5 v1 v2 => ?_) _ _)) (fun I' J' j' s' L' T' Y' P' x1 x2 x3 x4 x5 x6 x7 x8 x9 => K255_167 ?_)
                    · obtain ⟨cc, dd1, dd2, dd3⟩ := d
                      exact hE e he I5 J' ((k4.t a).t k5) (j4j.t b) ⟨v1.trans c.1, v2.trans c.2⟩ ⟨cc, v1.trans dd1, dd2, dd3⟩
                    · have x8m := x8 m (by omega)
                      refine ihg j' s' L' T' Y' P' I' J' _ _ (by omega) (by omega) x4 x5 x6 x7 (x8m.1.trans eP4) (by rw [eP4] at x8m; exact x8m.2.trans est) (fun i hi => ?_) (k4.t x1) (j4j.t x2) x9
                      have y1 := x8 i (by omega)
                      have y2 := eP5 i hi
                      rw [y2.1] at y1
                      exact ⟨y1.1, y1.2.trans y2.2⟩
                  · -- the end
                    have hs4 : s4 < n := (kd_1 (isW_t.mp ek).1).1
                    have n4l := n4.2.2 hs4
                    obtain ⟨j4, rfl⟩ : ∃ j0, j4 = j0 + 1 := ⟨j4 - 1, by omega⟩
                    rw [yMain, if_neg (by rw [(isW_t.mp ek).1]; decide), if_pos ek, if_neg (by omega), Nat.add_sub_cancel, eP4] at hR4
                    refine yes (by decide) (no (by decide) (r244 (d := D + 6) hL sr.1 (K255_179 hL ?_)))
                    rw [ek]
                    refine r222t (d := D + 6) hL (by omega) e3 sr.1 sr.2.1 (fun I5 J5 f5 j5 d5 => K255_182 hL (r251 (d := D + 8) hL d5 (K255_189 hL ?_)))
                    have sr5 := sr.a f5 j5 d5
                    cases e6 : isC F n (nxt F n s4)
                    · rw [if_neg (by rw [e6]; decide)] at hR4
                      refine r222f (d := D + 6) hL d5 sr5.2.1 (K255_192 hL ?_)
                      rw [nI_add, nI_clamp (by omega)]
                      exact ⟨vp_in_nI (by omega) (by decide), hE _ hR4.symm _ J5 (((k4.t f5.y).fmk).u (by omega)) (j4j.t j5) fm_d.u (fm_b am_le.1 am_le.2).u⟩
                    · rw [if_pos e6] at hR4
                      refine r222t (d := D + 6) hL (by omega) n4.2.1 d5 sr5.2.1 (fun I6 J6 f6 j6 d6 => K255_192 hL ?_)
                      have sr6 := sr5.a f6 j6 d6
                      rw [nI_add, nI_clamp (by omega), sr6.2.2.1]
                      refine ⟨vp_in_nI (by omega) (by decide), ?_⟩
                      obtain ⟨⟨i1, i2, i3, i4⟩, i5, i6⟩ := iv4
                      have hP := i4 m (by omega)
                      rw [eP4] at hP
                      obtain ⟨ck, ck1, ck2, ck3⟩ := i6 m (by omega)
                      rw [eP4] at ck1
                      have ewd : 1455 + 9 * stc Y4 L = w := by rw [est, hwd]
                      have hcg4 : ∀ i, i ≤ L4 → stc (yEnd Y4 L4 L) i = stc Y4 i := fun i hi => stc_cg i (fun q hq => yEnd_o (by omega) (Or.inl (by decide)))
                      have eL4 : yEnd Y4 L4 L L4 0 = nI 15 := by
                        unfold yEnd yJoin
                        rw [up_i (by decide), up_o (by omega), yPut_e]; rfl
                      refine hO _ J6 j4 (nxt F n (nxt F n s4)) (L4 + 1) T4 (yEnd Y4 L4 L) P4 ((((k4.t f5.y).t f6.y)).u (by omega)) ((j4j.t j5).t j6) (by omega) n5.2.1 (by omega) ⟨d6.u, sr6.2.1.u, by rw [up_o (by decide)]; exact sr6.2.2.1, ?_, fun i hi => by rw [up_i (by omega)]; exact sr6.2.2.2.2.1 i hi, sr6.2.2.2.2.2⟩ ⟨⟨by omega, i2, by omega, fun i hi => by have := i4 i (by omega); omega⟩, ?_, fun i hi => ?_⟩ (fun i hi => ?_) hR4
                      · refine YM.fin sr6.2.2.2.1 i5 hP ck1 ck2 ck3 (fun i hi => up_i (by omega)) ?_
                        rw [ewd, up_e]
                      · rw [stc, hcg4 L4 (Nat.le_refl _), i5, if_pos eL4]; rfl
                      · have := i4 i (by omega)
                        rw [yEnd_o (by omega) (Or.inl (by decide))]
                        exact i6 i (by omega)
                      · have y2 := eP5 i hi
                        have := b4 i hi
                        exact ⟨y2.1, (hcg4 _ (by omega)).trans y2.2⟩
              refine loop n j (nxt F n s2) (L + 1) (T + 1) (yPut Y L y2) (pN k m L P) I3 J3 0 0 (by omega) (by omega) n3.2.1 (by omega) sr3 (by rw [← eq1]; exact iv1) eP ((hcg L (Nat.le_refl _)).trans bt) (fun i hi => ⟨pN_o hi, hcg _ (by have := b4 i hi; omega)⟩) (fr3.t f3.y) (j2.t j3) ?_
              rw [← eq1]; exact hR
            · -- one line
              have kk10 : kk < 10 := by
                rcases ykt with ⟨e1, e2⟩ | ⟨e1, _⟩
                · rw [e2]; unfold clk; split <;> omega
                · omega
              have eq1 : qN k m = m := if_neg hk2
              have eq2 : pN k m L P = P := if_neg hk2
              refine K255_142 hL (yes rfl (yes rfl (K255_192 hL ?_)))
              rw [nI_add, nI_clamp (by omega), f3 65 26 (by omega), a26']
              refine ⟨vp_in_nI (by omega) (by decide), ?_⟩
              have ym3 : YM (up2 I3 70 (w + 8) (nI (T + 1)) 70) 1455 (L + 1) (yPut Y L y2) := h.2.2.2.1.add bt (fun i hi => by rw [up_i (by omega)]; exact low3 i (by omega)) q1 q2 q3 yt (by rw [hwd]; exact rl3.c (fun i _ _ => up_i (by omega)) (fun _ _ => rfl)) (fun x => by rw [hwd, up_e]) yk5
              rw [eq1, eq2] at hR iv1
              exact hO _ J3 j (nxt F n s2) (L + 1) (T + 1) (yPut Y L y2) P ((fr3.t f3.y).u (by omega)) (j2.t j3) (by omega) n3.2.1 (by omega) ⟨d3.u, (a4.k f3).u, by rw [up_o (by decide), f3 65 26 (by omega)]; exact a26', ym3, fun i hi => by rw [up_i (by omega)]; exact c3 i hi, wj (j2.t j3) h.2.2.2.2.2⟩ iv1 (fun i hi => ⟨rfl, hcg _ (by have := b4 i hi; omega)⟩) hR
      rcases hbk with ⟨rfl, hk2⟩ | ⟨rfl, hk2⟩
      · refine no (by decide) ?_
        rw [nI_eqI (by omega) (by decide)]
        by_cases m3 : m = 3
        · rw [if_pos ⟨hk2, m3⟩] at hR
          have b7 := fm_b (I := I) (k := 7) (s := s) (by decide) (by decide)
          exact nno m3 (r217 (d := D + 8) hL h.2.1 (K255_83 hL (no b7.nle (er 7 (by decide) (by decide) hR.symm))))
        · exact yes m3 (body (fun x => m3 x.2))
      · exact yes rfl (body (fun x => hk2 x.1))
    have hk0' : (0 : Int32) ≤ nI k := nI_pos' (by omega)
    have eg : gI (some k) = nI k := rfl
    rw [eg, nI_eqI (by omega) (by decide), nI_eqI (by omega) (by decide)]
    by_cases k8 : k = 8
    · exact yes k8 (yes hk0' (blk 1 (Or.inl ⟨rfl, Or.inl k8⟩) _))
    · refine no k8 ?_
      by_cases k9 : k = 9
      · exact nno k9 (yes hk0' (blk 1 (Or.inl ⟨rfl, Or.inr k9⟩) _))
      · exact yes k9 (yes hk0' (blk 0 (Or.inr ⟨rfl, fun h => h.elim k8 k9⟩) _))
theorem rs_0 {d : Nat} : RSP 0 (d + 13) := rs_step (D := d + 3) (by decide) (fun _ => rs_step (D := d + 2) (by decide) (fun _ => rs_step (D := d + 1) (by decide) (fun _ => rs_step (D := d) (by decide) (fun h => absurd h (by decide)))))
