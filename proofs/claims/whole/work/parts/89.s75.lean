/-! a step done: pure -/
abbrev YL := (Nat → Int32) × Nat × Int32 × Int32 × Int32
def nx (rn : Nat) : Nat := (rn * 2971 + 10883) % 65536
def dDk (k m : Nat) (st : YL) : Int32 × YL := ((dkB st.1 k m).1, (dkB st.1 k m).2, st.2.1, if (dkB st.1 k m).1 = 0 then st.2.2.1 else st.2.2.1 + nI 1, st.2.2.2.1, st.2.2.2.2)
def dSl (k f t dr : Nat) (st : YL) : Int32 × YL := if WL st.1 (ope st.1 (bi k)) f t < 30 then (1, (shB st.1 (ST1 st.1 (bi k) f t dr)).2, st.2.1, st.2.2.1, if (shB st.1 (ST1 st.1 (bi k) f t dr)).1 = 0 then st.2.2.2.1 + nI 1 else st.2.2.2.1, if (shB st.1 (ST1 st.1 (bi k) f t dr)).1 = 0 then st.2.2.2.2 else st.2.2.2.2 + nI 1) else (0, st)
def dAn (st : YL) : Int32 × YL :=
  if bn st.1 3 = 0 then (0, st) else
  if nx (nx st.2.1) / 8 % 16 < bn st.1 4 then dDk (nx st.2.1 / 8 % bn st.1 3) 1 (st.1, nx (nx st.2.1), st.2.2)
  else (1, ub st.1 (61 + nx st.2.1 / 8 % bn st.1 3) (nI 1 - st.1 (61 + nx st.2.1 / 8 % bn st.1 3)), nx (nx st.2.1), st.2.2)
def dO (y : Nat → Int32) (st : YL) : Int32 × YL :=
  if y 0 = nI 1 then dDk (bn y 1) (bn y 2) st
  else if y 0 = nI 2 then (if (rnB st.1 (bn y 2) (bn st.1 3)).1 = 0 then 0 else 1, (rnB st.1 (bn y 2) (bn st.1 3)).2, st.2)
  else if y 0 = nI 3 then ((vlB st.1 (bn y 1) 1).1, (vlB st.1 (bn y 1) 1).2, st.2)
  else if y 0 = nI 4 then ((vlB st.1 (bn y 1) 0).1, (vlB st.1 (bn y 1) 0).2, st.2)
  else if y 0 = nI 5 then (if (ikB st.1 (bn y 1) (bn y 2)).1 = 0 then 1 else 0, (ikB st.1 (bn y 1) (bn y 2)).2, st.2)
  else if y 0 = nI 6 then (if st.1 (67 + bn y 1) = 0 then 0 else 1, ub st.1 (67 + bn y 1) 0, st.2)
  else if y 0 = nI 7 then dSl (bn y 1) (bn y 2) (bn y 3) (bn y 4) st
  else if y 0 = nI 8 then dAn st
  else (1, st)
section
variable {y : Nat → Int32} {st : YL}
theorem dO1 (h : y 0 = nI 1) : dO y st = dDk (bn y 1) (bn y 2) st := by unfold dO; rw [if_pos h]
theorem dO2 (h : y 0 = nI 2) : dO y st = (if (rnB st.1 (bn y 2) (bn st.1 3)).1 = 0 then 0 else 1, (rnB st.1 (bn y 2) (bn st.1 3)).2, st.2) := by unfold dO; rw [h, if_neg (by decide), if_pos rfl]
theorem dO3 (h : y 0 = nI 3) : dO y st = ((vlB st.1 (bn y 1) 1).1, (vlB st.1 (bn y 1) 1).2, st.2) := by unfold dO; rw [h, if_neg (by decide), if_neg (by decide), if_pos rfl]
theorem dO4 (h : y 0 = nI 4) : dO y st = ((vlB st.1 (bn y 1) 0).1, (vlB st.1 (bn y 1) 0).2, st.2) := by unfold dO; rw [h, if_neg (by decide), if_neg (by decide), if_neg (by decide), if_pos rfl]
theorem dO5 (h : y 0 = nI 5) : dO y st = (if (ikB st.1 (bn y 1) (bn y 2)).1 = 0 then 1 else 0, (ikB st.1 (bn y 1) (bn y 2)).2, st.2) := by unfold dO; rw [h, if_neg (by decide), if_neg (by decide), if_neg (by decide), if_neg (by decide), if_pos rfl]
theorem dO6 (h : y 0 = nI 6) : dO y st = (if st.1 (67 + bn y 1) = 0 then 0 else 1, ub st.1 (67 + bn y 1) 0, st.2) := by unfold dO; rw [h, if_neg (by decide), if_neg (by decide), if_neg (by decide), if_neg (by decide), if_neg (by decide), if_pos rfl]
theorem dO7 (h : y 0 = nI 7) : dO y st = dSl (bn y 1) (bn y 2) (bn y 3) (bn y 4) st := by unfold dO; rw [h, if_neg (by decide), if_neg (by decide), if_neg (by decide), if_neg (by decide), if_neg (by decide), if_neg (by decide), if_pos rfl]
theorem dO8 (h : y 0 = nI 8) : dO y st = dAn st := by unfold dO; rw [h, if_neg (by decide), if_neg (by decide), if_neg (by decide), if_neg (by decide), if_neg (by decide), if_neg (by decide), if_neg (by decide), if_pos rfl]
theorem dO9 {k : Nat} (h : y 0 = nI k) (h1 : 9 ≤ k) (h2 : k < 100) : dO y st = (1, st) := by
  have e : ∀ j, j < 9 → ¬ nI k = nI j := fun j hj => by rw [nI_eqI (by omega) (by omega)]; omega
  unfold dO; rw [h, if_neg (e 1 (by decide)), if_neg (e 2 (by decide)), if_neg (e 3 (by decide)), if_neg (e 4 (by decide)), if_neg (e 5 (by decide)), if_neg (e 6 (by decide)), if_neg (e 7 (by decide)), if_neg (e 8 (by decide))]
end
theorem dSl_y {k f t dr : Nat} {st : YL} (h : WL st.1 (ope st.1 (bi k)) f t < 30) : dSl k f t dr st = (1, (shB st.1 (ST1 st.1 (bi k) f t dr)).2, st.2.1, st.2.2.1, if (shB st.1 (ST1 st.1 (bi k) f t dr)).1 = 0 then st.2.2.2.1 + nI 1 else st.2.2.2.1, if (shB st.1 (ST1 st.1 (bi k) f t dr)).1 = 0 then st.2.2.2.2 else st.2.2.2.2 + nI 1) := if_pos h
theorem dSl_n {k f t dr : Nat} {st : YL} (h : ¬ WL st.1 (ope st.1 (bi k)) f t < 30) : dSl k f t dr st = (0, st) := if_neg h
theorem nx_lt {rn : Nat} : nx rn < 65536 := Nat.mod_lt _ (by decide)
theorem dk_01 {B : Nat → Int32} {k m : Nat} : (dkB B k m).1 = 0 ∨ (dkB B k m).1 = 1 := by
  unfold dkB
  split
  · exact Or.inl rfl
  · exact Or.inr rfl
theorem vl_01 {B : Nat → Int32} {k : Nat} {b : Int32} : (vlB B k b).1 = 0 ∨ (vlB B k b).1 = 1 := by
  unfold vlB
  split
  · exact Or.inl rfl
  · exact Or.inr rfl
theorem sh_01 {B : Nat → Int32} {s : Int32} : (shB B s).1 = 0 ∨ (shB B s).1 = 1 := by
  unfold shB
  split
  · exact Or.inr rfl
  · exact Or.inl rfl
/-- a coast of the same shape -/
def smc (B B' : Nat → Int32) : Prop := WF B' ∧ (∀ j, j < 55 → j ≠ 5 → j ≠ 6 → B' j = B j) ∧ ∀ j, 73 ≤ j → B' j = B j
theorem smc.r {B : Nat → Int32} (w : WF B) : smc B B := ⟨w, fun _ _ _ _ => rfl, fun _ _ => rfl⟩
theorem smc.t {B B' B2 : Nat → Int32} (h : smc B B') (h2 : smc B' B2) : smc B B2 := ⟨h2.1, fun j a b c => (h2.2.1 j a b c).trans (h.2.1 j a b c), fun j a => (h2.2.2 j a).trans (h.2.2 j a)⟩
theorem smc.n {B B' : Nat → Int32} (h : smc B B') : bn B' 3 = bn B 3 := bn_c (h.2.1 3 (by decide) (by decide) (by decide))
theorem smc.e {B B' : Nat → Int32} (h : smc B B') : ce B' = ce B := ce_cg (fun j hj => h.2.1 j (by omega) (by omega) (by omega))
theorem sm_ub {B : Nat → Int32} {i : Nat} {v : Int32} (h : WF (ub B i v)) (hi : 55 ≤ i) (hi2 : i < 73) : smc B (ub B i v) := ⟨h, fun j a _ _ => ub_o (by omega), fun j a => ub_o (by omega)⟩
theorem sm_dk {B : Nat → Int32} {k m : Nat} (w : WF B) (hk : k < bn B 3) : smc B (dkB B k m).2 := by
  have hc := w.c.2
  unfold dkB
  split
  · exact smc.r w
  · exact sm_ub (w.tan hk (Nat.min_le_left _ _)) (by omega) (by omega)
theorem sm_rn {B : Nat → Int32} {m : Nat} (w : WF B) : ∀ n, n ≤ bn B 3 → smc B (rnB B m n).2
  | 0, _ => smc.r w
  | n + 1, h => by
    have hc := w.c.2
    have ih := sm_rn (m := m) w n (by omega)
    have w2 := w.rn (m := m) (n + 1) h
    rw [rnB] at w2 ⊢
    split at w2
    · rename_i q; rw [if_pos q]; exact ih
    · rename_i q; rw [if_neg q]; exact ih.t (sm_ub w2 (by omega) (by omega))
theorem sm_vl {B : Nat → Int32} {k : Nat} {b : Int32} (w : WF B) (hk : k < bn B 3) (hb : b = 0 ∨ b = 1) : smc B (vlB B k b).2 := by
  have hc := w.c.2
  unfold vlB
  split
  · exact smc.r w
  · exact sm_ub (w.veil hk hb) (by omega) (by omega)
theorem sm_ik {B : Nat → Int32} {k c : Nat} (w : WF B) (hk : k < bn B 3) : smc B (ikB B k c).2 := by
  have hc := w.c.2
  unfold ikB
  split
  · exact smc.r w
  · rename_i q
    split
    · rename_i q2
      have w1 := w.ik1 hk q2.1 q2.2 q
      exact sm_ub (w.ink hk w1.1 w1.2) (by omega) (by omega)
    · exact smc.r w
theorem sm_sh {B : Nat → Int32} {s : Int32} (w : WF B) : smc B (shB B s).2 := by
  have go : ∀ i v, i = 5 ∨ i = 6 → smc B (ub B i v) := fun i v hi => by
    refine ⟨w.of (fun j h1 h2 h3 h4 => ub_o (by omega)) (by rw [ub_o (by omega)]; exact w.o') (fun k hk => ?_), fun j a b c => ub_o (by omega), fun j a => ub_o (by omega)⟩
    rw [ub_o (by omega), ub_o (by omega), ub_o (by omega)]
    exact (w.pw hk).2.2.2
  unfold shB
  split
  · exact go 6 _ (Or.inr rfl)
  · exact go 5 _ (Or.inl rfl)
theorem tog_01 {x : Int32} (h : x = 0 ∨ x = 1) : nI 1 - x = 0 ∨ nI 1 - x = 1 := by
  rcases h with rfl | rfl
  · exact Or.inr rfl
  · exact Or.inl rfl
theorem sm_an {st : YL} (w : WF st.1) : smc st.1 (dAn st).2.1 := by
  have hc := w.c.2
  unfold dAn
  split
  · exact smc.r w
  · rename_i q
    have hk : nx st.2.1 / 8 % bn st.1 3 < bn st.1 3 := Nat.mod_lt _ (by omega)
    split
    · exact sm_dk w hk
    · exact sm_ub (w.veil hk (tog_01 (w.ve hk))) (by omega) (by omega)
theorem bn_of {y : Nat → Int32} {i m : Nat} (h : y i = nI m) (hm : m < 2147483648) : bn y i = m := bn_nI h hm
theorem sm_do {y : Nat → Int32} {st : YL} {k : Nat} (w : WF st.1) (hy : y 0 = nI k) (h1 : 1 ≤ k) (h2 : k ≤ 14) (v : VL (bn st.1 3) (ce st.1) k y) : smc st.1 (dO y st).2.1 := by
  have hc := w.c.2
  have hce := ce_le w
  have who : (k = 1 ∨ (3 ≤ k ∧ k ≤ 7)) → bn y 1 < bn st.1 3 := fun h => by
    obtain ⟨a, a1, a2⟩ := v.1 (by omega)
    rw [bn_of a2 (by omega)]; exact a1
  rcases (by omega : k = 1 ∨ k = 2 ∨ k = 3 ∨ k = 4 ∨ k = 5 ∨ k = 6 ∨ k = 7 ∨ k = 8 ∨ 9 ≤ k) with rfl | rfl | rfl | rfl | rfl | rfl | rfl | rfl | h9
  · rw [dO1 hy]; exact sm_dk w (who (by omega))
  · rw [dO2 hy]; exact sm_rn w _ (Nat.le_refl _)
  · rw [dO3 hy]; exact sm_vl w (who (by omega)) (Or.inr rfl)
  · rw [dO4 hy]; exact sm_vl w (who (by omega)) (Or.inl rfl)
  · rw [dO5 hy]; exact sm_ik w (who (by omega))
  · rw [dO6 hy]
    have hk := who (by omega)
    exact sm_ub (w.ink hk (fun i _ h => by rw [b_0] at h; cases h) (by rw [ct_0]; decide)) (by omega) (by omega)
  · rw [dO7 hy]
    by_cases q : WL st.1 (ope st.1 (bi (bn y 1))) (bn y 2) (bn y 3) < 30
    · rw [dSl_y q]
      generalize ST1 st.1 (bi (bn y 1)) (bn y 2) (bn y 3) (bn y 4) = x
      exact sm_sh w
    · rw [dSl_n q]
      exact smc.r w
  · rw [dO8 hy]; exact sm_an w
  · rw [dO9 hy h9 (by omega)]; exact smc.r w
theorem dAn_rn {st : YL} (h : st.2.1 < 65536) : (dAn st).2.2.1 < 65536 := by
  unfold dAn
  split
  · exact h
  · split
    · exact nx_lt
    · exact nx_lt
theorem dO_rn {y : Nat → Int32} {st : YL} {k : Nat} (hy : y 0 = nI k) (h1 : 1 ≤ k) (h2 : k ≤ 14) (h : st.2.1 < 65536) : (dO y st).2.2.1 < 65536 := by
  rcases (by omega : k = 1 ∨ k = 2 ∨ k = 3 ∨ k = 4 ∨ k = 5 ∨ k = 6 ∨ k = 7 ∨ k = 8 ∨ 9 ≤ k) with rfl | rfl | rfl | rfl | rfl | rfl | rfl | rfl | h9
  · rw [dO1 hy]; exact h
  · rw [dO2 hy]; exact h
  · rw [dO3 hy]; exact h
  · rw [dO4 hy]; exact h
  · rw [dO5 hy]; exact h
  · rw [dO6 hy]; exact h
  · rw [dO7 hy]
    by_cases q : WL st.1 (ope st.1 (bi (bn y 1))) (bn y 2) (bn y 3) < 30
    · rw [dSl_y q]; exact h
    · rw [dSl_n q]; exact h
  · rw [dO8 hy]; exact dAn_rn h
  · rw [dO9 hy h9 (by omega)]; exact h
/-- whether a test holds -/
def hO (B y : Nat → Int32) : Bool := if y 0 = nI 12 then bt (shown B (bn y 1)) (bn y 2) else if y 0 = nI 13 then (if y 3 = nI 60 then decide (B (55 + bn y 1) < y 2) else if y 3 = nI 62 then decide (y 2 < B (55 + bn y 1)) else decide (B (55 + bn y 1) = y 2)) else decide (B (61 + bn y 1) = 1)
