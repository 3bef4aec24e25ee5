/-- what stands behind a step's word, in a bad text -/
def BQ (Q : XQ) (S : XS) (I : XI) (J : XJ) (r : XR) (w : Nat) : Prop := ∀ I', kmw w I I' → I' 65 12 = I 65 12 → I' 65 13 = I 65 13 → Q none S I' J r
theorem BQ.u {Q : XQ} {S : XS} {I : XI} {J : XJ} {r : XR} {w i : Nat} {v : Int32} (h : BQ Q S I J r w) (hi : w < i) : BQ Q S (up2 I 70 i v) J r w := fun I' k a b => h I' (((kmw.r w I).u hi).t k) (by rw [a, up_o (by decide)]) (by rw [b, up_o (by decide)])
theorem BQ.q {Q : XQ} {S : XS} {I : XI} {J : XJ} {r : XR} {w : Nat} (h : BQ Q S I J r w) : Q none S I J r := h I (kmw.r w I) rfl rfl
theorem e160 {d : Nat} {Q : XQ} {S : XS} {I : XI} {J : XJ} {r : XR} {w cu su : Nat} {x : Int32} {w2 : Value} (hL : LAY S r) (hm : 1455 ≤ w) (hm2 : w + 8 < 1725) (b : BM I) (hQ : BQ Q S I J r w) : xrun z0 (xcall (d + 2)) Q 256 160 [.ref 65, .int (nI w), w2] [.int x, .int (nI (w + 3)), .ref 70] S I J r cu su := by
  refine K256_160 hL ?_
  rw [nI_clamp (by omega)]
  refine ⟨vp_in_nI (by omega) (by decide), r218b (d := d) hL b.u (K256_175 hL ?_)⟩
  simp only [nI_add]
  rw [nI_clamp (by omega)]
  exact ⟨vp_in_nI (by omega) (by decide), ((hQ.u (by omega)).u (by omega)).q⟩
theorem e134 {d : Nat} {Q : XQ} {S : XS} {I : XI} {J : XJ} {r : XR} {w k cu su : Nat} {x : Int32} (hL : LAY S r) (hm : 1455 ≤ w) (hm2 : w + 8 < 1725) (hk : k = 4 ∨ k = 6) (b : BM I) (hQ : BQ Q S I J r w) : xrun z0 (xcall (d + 2)) Q 256 134 [.ref 65, .int (nI w), .int (nI k)] [.int x, .int (nI (w + 2)), .ref 70] S I J r cu su := by
  refine K256_134 hL ?_
  rw [nI_clamp (by omega)]
  refine ⟨vp_in_nI (by omega) (by decide), ?_⟩
  rcases hk with rfl | rfl
  · exact no (by decide) (hQ.u (by omega)).q
  · refine yes rfl (E259 (d := d + 1) hL (K256_155 hL (r218b (d := d) hL b.u ?_)))
    simp only [nI_add]
    exact e160 hL hm hm2 b.u (hQ.u (by omega))
theorem e85 {d : Nat} {Q : XQ} {S : XS} {I : XI} {J : XJ} {r : XR} {w k cu su : Nat} {x : Int32} (hL : LAY S r) (hm : 1455 ≤ w) (hm2 : w + 8 < 1725) (hk : k ≤ 6) (b : BM I) (hQ : BQ Q S I J r w) : xrun z0 (xcall (d + 2)) Q 256 85 [.ref 65, .int (nI w), .int (nI k)] [.int x, .int (nI (w + 1)), .ref 70] S I J r cu su := by
  refine K256_85 hL ?_
  rw [nI_clamp (by omega)]
  refine ⟨vp_in_nI (by omega) (by decide), ?_⟩
  have h129 : (k = 4 ∨ k = 6) → xcall (d + 2) 259 [.ref 65] S (up2 I 70 (w + 1) x) J r (fun v S1 I1 J1 r1 => xrun z0 (xcall (d + 2)) Q 256 129 [.ref 65, .int (nI w), .int (nI k)] (v.toList ++ [.int (nI 0), .ref 65, .int (nI w + nI 2), .ref 70]) S1 I1 J1 r1 cu su) := fun hk => by
    refine E259 (d := d + 1) hL (K256_129 hL (r218b (d := d) hL b.u ?_))
    simp only [nI_add]
    exact e134 hL hm hm2 hk b.u (hQ.u (by omega))
  rcases (by omega : k = 0 ∨ k = 1 ∨ k = 2 ∨ k = 3 ∨ k = 4 ∨ k = 5 ∨ k = 6) with rfl | rfl | rfl | rfl | rfl | rfl | rfl
  · refine nno rfl (r218b (d := d) hL b.u (K256_104 hL ?_))
    simp only [nI_add]
    rw [nI_clamp (by omega)]
    exact ⟨vp_in_nI (by omega) (by decide), no (by decide) (yes (by decide) (no (by decide) ((hQ.u (by omega)).u (by omega)).q))⟩
  · exact yes (by decide) (no (by decide) (yes (by decide) (no (by decide) (hQ.u (by omega)).q)))
  · exact yes (by decide) (no (by decide) (yes (by decide) (no (by decide) (hQ.u (by omega)).q)))
  · exact yes (by decide) (no (by decide) (yes (by decide) (no (by decide) (hQ.u (by omega)).q)))
  · exact yes (by decide) (yes rfl (h129 (Or.inl rfl)))
  · exact yes (by decide) (no (by decide) (yes (by decide) (no (by decide) (hQ.u (by omega)).q)))
  · exact yes (by decide) (no (by decide) (nno rfl (h129 (Or.inr rfl))))
theorem BQ.of {Q : XQ} {S : XS} {I : XI} {J : XJ} {r : XR} {w c p : Nat} (h : ∀ I', kmw w (fm I c p) I' → bd I' c p → Q none S I' J r) : BQ Q S (fm I c p) J r w := fun I' k a b => h I' k ⟨a.trans (by unfold fm; rw [up_i (by decide), up_e]), b.trans up_e⟩
theorem r256 {d : Nat} {Q : XQ} {S : XS} {I : XI} {J : XJ} {r : XR} {n s w k : Nat} {F B y : Nat → Int32} {W : Nat → Int64} (hL : LAY S r) (hn : n ≤ 900) (hs : s ≤ n) (wf : WF B) (hm : 1455 ≤ w) (hm2 : w + 8 < 1725) (h : RM I J n F s) (g : GM I) (hc : ∀ i, i < 1380 → I 70 i = B i) (hw : ∀ k, k < bn B 3 → J 72 k = W k) (hk : k ≤ 10) (hy : I 70 w = nI k) (hy0 : y 0 = nI (clk k)) (hQ : RQY Q S I J r n F w (yRest F n s y k (bn B 3) (ce B) W)) : xcall (d + 9) 256 [.ref 65, .int (nI w)] S I J r Q := by
  have hce := ce_le wf
  have n1 := nxt_le (F := F) hs
  have n2 := nxt_le (F := F) n1.2.1
  have n3 := nxt_le (F := F) n2.2.1
  refine E256 hL ?_
  rw [nI_clamp (by omega), hy]
  refine ⟨vp_in_nI (by omega) (by decide), ?_⟩
  simp only [nI_add]
  -- whose is read first
  have who : ∀ {K : Nat → Nat → YO}, k ≤ 6 → RQY Q S I J r n F w (qCou F n s (bn B 3) W K) → (∀ q I2 J2, q < bn B 3 → mk I I2 → jk 65 19 J J2 → RM (up2 I2 70 (w + 1) (nI q)) J2 n F (nxt F n s) → GM (up2 I2 70 (w + 1) (nI q)) → RQY Q S (up2 I2 70 (w + 1) (nI q)) J2 r n F w (K q (nxt F n s)) → xrun z0 (xcall (d + 8)) Q 256 85 [.ref 65, .int (nI w), .int (nI k)] [.int (nI q), .int (nI (w + 1)), .ref 70] S I2 J2 r 0 0) → xcall (d + 8) 258 [.ref 65] S I J r (fun v S1 I1 J1 r1 => xrun z0 (xcall (d + 8)) Q 256 85 [.ref 65, .int (nI w), .int (nI k)] (v.toList ++ [.int (nI (w + 1)), .ref 70]) S1 I1 J1 r1 0 0) := fun {K} hk6 hQ go => by
    refine r258q (d := d + 1) hL hn hs wf h g hc hw hQ (fun c x c0 c1 hq => e85 (d := d + 6) hL hm hm2 hk6 (fm_b c0 c1) (BQ.of hq)) (fun q I2 J2 hq f2 j2 h2 g2 hQ => go q I2 J2 hq f2 j2 h2.u g2.u (hQ.x ((kmw.r w I2).u (by omega)) (jk.r _ _ _)))
  rcases (by omega : k = 0 ∨ k = 1 ∨ k = 2 ∨ k = 3 ∨ k = 4 ∨ k = 5 ∨ k = 6 ∨ k = 7 ∨ k = 8 ∨ k = 9 ∨ k = 10) with rfl | rfl | rfl | rfl | rfl | rfl | rfl | rfl | rfl | rfl | rfl
  · -- sun
    rw [yR0] at hQ
    refine yes (by decide) (yes (by decide) (yes (by decide) (no (by decide) (who (by decide) hQ (fun q I2 J2 hq f2 j2 h2 g2 hQ => K256_85 hL ?_)))))
    rw [nI_clamp (by omega)]
    refine ⟨vp_in_nI (by omega) (by decide), nno rfl ?_⟩
    simp only [nI_add]
    refine r218q (d := d + 4) hL hn n1.2.1 h2 g2 (by decide) (by decide) hQ (fun c c0 c1 hq => K256_104 hL ?_) (fun I3 J3 _ _ f4 j4 h4 g4 hQ => K256_104 hL ?_)
    · rw [nI_clamp (by omega)]
      exact ⟨vp_in_nI (by omega) (by decide), no (by decide) (yes (by decide) (no (by decide) ((BQ.of hq).u (by omega)).q))⟩
    · rw [nI_clamp (by omega)]
      refine ⟨vp_in_nI (by omega) (by decide), no (by decide) (yes (by decide) (no (by decide) (hQ _ J3 ((kmw.r _ _).u (by omega)) (jk.r _ _ _) h4.u g4.u ⟨1, by decide, by decide, by decide, ?_, ?_, fun _ => ?_, fun h => absurd h (by decide), fun _ => ?_, fun h => absurd h (by decide), fun h => absurd h (by decide), fun h => absurd h (by decide)⟩)))⟩
      · rw [ub_o (by decide), ub_o (by decide)]; exact hy0
      · rw [up_i (by omega), f4 70 w (by omega), up_i (by omega), f2 70 w (by omega)]; exact hy
      · rw [up_i (by omega), f4 70 _ (by omega), up_e, ub_o (by decide), ub_e]
      · rw [up_e, ub_e]
  · -- rain
    rw [yR1] at hQ
    refine nno rfl (r218q (d := d + 4) hL hn hs h g (by decide) (by decide) hQ (fun c c0 c1 hq => K256_26 hL ?_) (fun I3 J3 _ _ f4 j4 h4 g4 hQ => K256_26 hL ?_))
    · rw [nI_clamp (by omega)]
      exact ⟨vp_in_nI (by omega) (by decide), ((BQ.of hq).u (by omega)).q⟩
    · rw [nI_clamp (by omega)]
      refine ⟨vp_in_nI (by omega) (by decide), hQ _ J3 ((kmw.r _ _).u (by omega)) (jk.r _ _ _) h4.u g4.u ⟨2, by decide, by decide, by decide, ?_, ?_, fun h => absurd h (by decide), fun _ => ?_, fun h => absurd h (by decide), fun h => absurd h (by decide), fun h => absurd h (by decide), fun h => absurd h (by decide)⟩⟩
      · rw [ub_o (by decide)]; exact hy0
      · rw [up_i (by omega), f4 70 w (by omega)]; exact hy
      · rw [up_e, ub_e]
  · -- veil
    rw [yR235 (by decide)] at hQ
    refine yes (by decide) (yes (by decide) (yes (by decide) (no (by decide) (who (by decide) hQ (fun q I2 J2 hq f2 j2 h2 g2 hQ => K256_85 hL ?_)))))
    rw [nI_clamp (by omega)]
    refine ⟨vp_in_nI (by omega) (by decide), yes (by decide) (no (by decide) (yes (by decide) (no (by decide) (hQ _ J2 (kmw.r _ _) (jk.r _ _ _) h2 g2 ⟨3, by decide, by decide, by decide, ?_, ?_, fun _ => ?_, fun h => absurd h (by decide), fun h => absurd h (by decide), fun h => absurd h (by decide), fun h => absurd h (by decide), fun h => absurd h (by decide)⟩))))⟩
    · rw [ub_o (by decide)]; exact hy0
    · rw [up_i (by omega), f2 70 w (by omega)]; exact hy
    · rw [up_e, ub_e]
  · -- bare
    rw [yR235 (by decide)] at hQ
    refine yes (by decide) (yes (by decide) (yes (by decide) (no (by decide) (who (by decide) hQ (fun q I2 J2 hq f2 j2 h2 g2 hQ => K256_85 hL ?_)))))
    rw [nI_clamp (by omega)]
    refine ⟨vp_in_nI (by omega) (by decide), yes (by decide) (no (by decide) (yes (by decide) (no (by decide) (hQ _ J2 (kmw.r _ _) (jk.r _ _ _) h2 g2 ⟨4, by decide, by decide, by decide, ?_, ?_, fun _ => ?_, fun h => absurd h (by decide), fun h => absurd h (by decide), fun h => absurd h (by decide), fun h => absurd h (by decide), fun h => absurd h (by decide)⟩))))⟩
    · rw [ub_o (by decide)]; exact hy0
    · rw [up_i (by omega), f2 70 w (by omega)]; exact hy
    · rw [up_e, ub_e]
  · -- ink
    rw [yR4] at hQ
    refine yes (by decide) (yes (by decide) (yes (by decide) (no (by decide) (who (by decide) hQ (fun q I2 J2 hq f2 j2 h2 g2 hQ => K256_85 hL ?_)))))
    rw [nI_clamp (by omega)]
    have k3 : kmw w I (up2 I2 70 (w + 1) (nI q)) := f2.w.u (by omega)
    refine ⟨vp_in_nI (by omega) (by decide), yes (by decide) (yes rfl (r259c (d := d + 7) hL wf (cj k3 (by omega) hc) (K256_129 hL ?_)))⟩
    rw [pk_sub (by omega)]
    simp only [nI_add]
    refine r218q (d := d + 4) hL hn n1.2.1 h2 g2 (by decide) (by omega) hQ (fun c c0 c1 hq => e134 (d := d + 6) hL hm hm2 (Or.inl rfl) (fm_b c0 c1) (BQ.of hq)) (fun I3 J3 _ _ f4 j4 h4 g4 hQ => K256_134 hL ?_)
    rw [nI_clamp (by omega)]
    refine ⟨vp_in_nI (by omega) (by decide), no (by decide) (hQ _ J3 ((kmw.r _ _).u (by omega)) (jk.r _ _ _) h4.u g4.u ⟨5, by decide, by decide, by decide, ?_, ?_, fun _ => ?_, fun h => absurd h (by decide), fun _ => ?_, fun h => absurd h (by decide), fun h => absurd h (by decide), fun h => absurd h (by decide)⟩)⟩
    · rw [ub_o (by decide), ub_o (by decide)]; exact hy0
    · rw [up_i (by omega), f4 70 w (by omega), up_i (by omega), f2 70 w (by omega)]; exact hy
    · rw [up_i (by omega), f4 70 _ (by omega), up_e, ub_o (by decide), ub_e]
    · rw [up_e, ub_e]
  · -- wash
    rw [yR235 (by decide)] at hQ
    refine yes (by decide) (yes (by decide) (yes (by decide) (no (by decide) (who (by decide) hQ (fun q I2 J2 hq f2 j2 h2 g2 hQ => K256_85 hL ?_)))))
    rw [nI_clamp (by omega)]
    refine ⟨vp_in_nI (by omega) (by decide), yes (by decide) (no (by decide) (yes (by decide) (no (by decide) (hQ _ J2 (kmw.r _ _) (jk.r _ _ _) h2 g2 ⟨6, by decide, by decide, by decide, ?_, ?_, fun _ => ?_, fun h => absurd h (by decide), fun h => absurd h (by decide), fun h => absurd h (by decide), fun h => absurd h (by decide), fun h => absurd h (by decide)⟩))))⟩
    · rw [ub_o (by decide)]; exact hy0
    · rw [up_i (by omega), f2 70 w (by omega)]; exact hy
    · rw [up_e, ub_e]
  · -- sail
    rw [yR6] at hQ
    refine yes (by decide) (yes (by decide) (yes (by decide) (no (by decide) (who (by decide) hQ (fun q I2 J2 hq f2 j2 h2 g2 hQ => K256_85 hL ?_)))))
    rw [nI_clamp (by omega)]
    have k3 : kmw w I (up2 I2 70 (w + 1) (nI q)) := f2.w.u (by omega)
    refine ⟨vp_in_nI (by omega) (by decide), yes (by decide) (no (by decide) (nno rfl (r259c (d := d + 7) hL wf (cj k3 (by omega) hc) (K256_129 hL ?_))))⟩
    rw [pk_sub (by omega)]
    simp only [nI_add]
    refine r218q (d := d + 4) hL hn n1.2.1 h2 g2 (by decide) (by omega) hQ (fun c c0 c1 hq => e134 (d := d + 6) hL hm hm2 (Or.inr rfl) (fm_b c0 c1) (BQ.of hq)) (fun I3 J3 _ _ f4 j4 h4 g4 hQ => K256_134 hL ?_)
    rw [nI_clamp (by omega)]
    generalize ha1 : nm F n (nxt F n s) = m1 at *
    have k5 : kmw w I3 (up2 I3 70 (w + 2) (nI m1)) := (kmw.r w I3).u (by omega)
    refine ⟨vp_in_nI (by omega) (by decide), yes rfl (r259c (d := d + 7) hL wf (cj ((k3.t f4.w).t k5) (by omega) hc) (K256_155 hL ?_))⟩
    rw [pk_sub (by omega)]
    simp only [nI_add]
    refine r218q (d := d + 4) hL hn n2.2.1 h4.u g4.u (by decide) (by omega) (hQ.x k5 (jk.r _ _ _)) (fun c c0 c1 hq => e160 (d := d + 6) hL hm hm2 (fm_b c0 c1) (BQ.of hq)) (fun I5 J5 _ _ f6 j6 h6 g6 hQ => K256_160 hL ?_)
    rw [nI_clamp (by omega)]
    generalize ha2 : nm F n (nxt F n (nxt F n s)) = m2 at *
    have k7 : kmw w I5 (up2 I5 70 (w + 3) (nI m2)) := (kmw.r w I5).u (by omega)
    refine ⟨vp_in_nI (by omega) (by decide), ?_⟩
    simp only [nI_add]
    refine r218q (d := d + 4) hL hn n3.2.1 h6.u g6.u (by decide) (by decide) (hQ.x k7 (jk.r _ _ _)) (fun c c0 c1 hq => K256_175 hL ?_) (fun I7 J7 _ _ f8 j8 h8 g8 hQ => K256_175 hL ?_)
    · rw [nI_clamp (by omega)]
      exact ⟨vp_in_nI (by omega) (by decide), ((BQ.of hq).u (by omega)).q⟩
    · rw [nI_clamp (by omega)]
      refine ⟨vp_in_nI (by omega) (by decide), hQ _ J7 ((kmw.r _ _).u (by omega)) (jk.r _ _ _) h8.u g8.u ⟨7, by decide, by decide, by decide, ?_, ?_, fun _ => ?_, fun h => absurd h (by decide), fun _ => ?_, fun _ => ⟨?_, ?_⟩, fun h => absurd h (by decide), fun h => absurd h (by decide)⟩⟩
      · rw [ub_o (by decide), ub_o (by decide), ub_o (by decide), ub_o (by decide)]; exact hy0
      · rw [up_i (by omega), f8 70 w (by omega), up_i (by omega), f6 70 w (by omega), up_i (by omega), f4 70 w (by omega), up_i (by omega), f2 70 w (by omega)]; exact hy
      · rw [up_i (by omega), f8 70 _ (by omega), up_i (by omega), f6 70 _ (by omega), up_i (by omega), f4 70 _ (by omega), up_e, ub_o (by decide), ub_o (by decide), ub_o (by decide), ub_e]
      · rw [up_i (by omega), f8 70 _ (by omega), up_i (by omega), f6 70 _ (by omega), up_e, ub_o (by decide), ub_o (by decide), ub_e]
      · rw [up_i (by omega), f8 70 _ (by omega), up_e, ub_o (by decide), ub_e]
      · rw [up_e, ub_e]
  · -- any
    rw [yR7 (by decide)] at hQ
    exact yes (by decide) (yes (by decide) (yes (by decide) (yes (by decide) (hQ I J (kmw.r _ _) (jk.r _ _ _) h g ⟨8, by decide, by decide, by decide, hy0, hy, fun h => absurd h (by decide), fun h => absurd h (by decide), fun h => absurd h (by decide), fun h => absurd h (by decide), fun h => absurd h (by decide), fun h => absurd h (by decide)⟩))))
  · -- when
    rw [yR8] at hQ
    refine yes (by decide) (yes (by decide) (nno rfl (r257 (d := d) (y := y) hL hn hs wf hm hm2 h g hc hw hy ?_)))
    cases eo : yTest F n s y (bn B 3) (ce B) W with
    | error e => rw [eo] at hQ; exact fun I' J' a1 a2 a3 a4 a5 => K256_65 (hQ I' J' a1 a2 a3 a4 a5)
    | ok o => obtain ⟨s5, y5⟩ := o; rw [eo] at hQ; exact fun I' J' a1 a2 a3 a4 a5 => K256_65 (hQ I' J' a1 a2 a3 a4 a5)
  · -- loop
    rw [yR9] at hQ
    refine yes (by decide) (nno rfl (r218q (d := d + 4) hL hn hs h g (by decide) (by decide) hQ (fun c c0 c1 hq => K256_50 hL ?_) (fun I3 J3 _ _ f4 j4 h4 g4 hQ => K256_50 hL ?_)))
    · rw [nI_clamp (by omega)]
      exact ⟨vp_in_nI (by omega) (by decide), ((BQ.of hq).u (by omega)).q⟩
    · rw [nI_clamp (by omega)]
      refine ⟨vp_in_nI (by omega) (by decide), hQ _ J3 ((kmw.r _ _).u (by omega)) (jk.r _ _ _) h4.u g4.u ⟨10, by decide, by decide, by decide, ?_, ?_, fun h => absurd h (by decide), fun _ => ?_, fun h => absurd h (by decide), fun h => absurd h (by decide), fun h => absurd h (by decide), fun h => absurd h (by decide)⟩⟩
      · rw [ub_o (by decide)]; exact hy0
      · rw [up_i (by omega), f4 70 w (by omega)]; exact hy
      · rw [up_e, ub_e]
  · -- stop
    rw [yR7 (by decide)] at hQ
    exact yes (by decide) (yes (by decide) (yes (by decide) (yes (by decide) (hQ I J (kmw.r _ _) (jk.r _ _ _) h g ⟨9, by decide, by decide, by decide, hy0, hy, fun h => absurd h (by decide), fun h => absurd h (by decide), fun h => absurd h (by decide), fun h => absurd h (by decide), fun h => absurd h (by decide), fun h => absurd h (by decide)⟩))))
