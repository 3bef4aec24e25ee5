theorem okM_c0 : ∀ k, k < 13 → (okMs (k + 0) = true → okM (k + 0) = true) := by decide +kernel
theorem okM_c1 : ∀ k, k < 13 → (okMs (k + 13) = true → okM (k + 13) = true) := by decide +kernel
theorem okM_c2 : ∀ k, k < 13 → (okMs (k + 26) = true → okM (k + 26) = true) := by decide +kernel
theorem okM_c3 : ∀ k, k < 13 → (okMs (k + 39) = true → okM (k + 39) = true) := by decide +kernel
theorem okM_c4 : ∀ k, k < 13 → (okMs (k + 52) = true → okM (k + 52) = true) := by decide +kernel
theorem okM_c5 : ∀ k, k < 13 → (okMs (k + 65) = true → okM (k + 65) = true) := by decide +kernel
theorem okM_c6 : ∀ k, k < 13 → (okMs (k + 78) = true → okM (k + 78) = true) := by decide +kernel
theorem okM_c7 : ∀ k, k < 13 → (okMs (k + 91) = true → okM (k + 91) = true) := by decide +kernel
theorem okM_c8 : ∀ k, k < 13 → (okMs (k + 104) = true → okM (k + 104) = true) := by decide +kernel
theorem okM_c9 : ∀ k, k < 13 → (okMs (k + 117) = true → okM (k + 117) = true) := by decide +kernel
theorem okM_c10 : ∀ k, k < 13 → (okMs (k + 130) = true → okM (k + 130) = true) := by decide +kernel
theorem okM_c11 : ∀ k, k < 13 → (okMs (k + 143) = true → okM (k + 143) = true) := by decide +kernel
theorem okM_c12 : ∀ k, k < 13 → (okMs (k + 156) = true → okM (k + 156) = true) := by decide +kernel
theorem okM_c13 : ∀ k, k < 13 → (okMs (k + 169) = true → okM (k + 169) = true) := by decide +kernel
theorem okM_c14 : ∀ k, k < 13 → (okMs (k + 182) = true → okM (k + 182) = true) := by decide +kernel
theorem okM_c15 : ∀ k, k < 13 → (okMs (k + 195) = true → okM (k + 195) = true) := by decide +kernel
theorem okM_c16 : ∀ k, k < 13 → (okMs (k + 208) = true → okM (k + 208) = true) := by decide +kernel
theorem okM_c17 : ∀ k, k < 13 → (okMs (k + 221) = true → okM (k + 221) = true) := by decide +kernel
theorem okM_c18 : ∀ k, k < 13 → (okMs (k + 234) = true → okM (k + 234) = true) := by decide +kernel
theorem okM_c19 : ∀ k, k < 13 → (okMs (k + 247) = true → okM (k + 247) = true) := by decide +kernel
theorem okM_c20 : ∀ k, k < 13 → (okMs (k + 260) = true → okM (k + 260) = true) := by decide +kernel
theorem okM_c21 : ∀ k, k < 13 → (okMs (k + 273) = true → okM (k + 273) = true) := by decide +kernel
theorem okM_c22 : ∀ k, k < 13 → (okMs (k + 286) = true → okM (k + 286) = true) := by decide +kernel
theorem okM_c23 : ∀ k, k < 13 → (okMs (k + 299) = true → okM (k + 299) = true) := by decide +kernel
theorem okM_c24 : ∀ k, k < 13 → (okMs (k + 312) = true → okM (k + 312) = true) := by decide +kernel
theorem okM_c25 : ∀ k, k < 13 → (okMs (k + 325) = true → okM (k + 325) = true) := by decide +kernel
theorem okM_c26 : ∀ k, k < 13 → (okMs (k + 338) = true → okM (k + 338) = true) := by decide +kernel
theorem okM_all : ∀ k, k < 351 → okMs k = true → okM k = true := by
  intro k hk
  by_cases h0 : k < 13
  · have h9 := okM_c0 (k - 0) (by omega)
    rwa [show k - 0 + 0 = k by omega] at h9
  by_cases h1 : k < 26
  · have h9 := okM_c1 (k - 13) (by omega)
    rwa [show k - 13 + 13 = k by omega] at h9
  by_cases h2 : k < 39
  · have h9 := okM_c2 (k - 26) (by omega)
    rwa [show k - 26 + 26 = k by omega] at h9
  by_cases h3 : k < 52
  · have h9 := okM_c3 (k - 39) (by omega)
    rwa [show k - 39 + 39 = k by omega] at h9
  by_cases h4 : k < 65
  · have h9 := okM_c4 (k - 52) (by omega)
    rwa [show k - 52 + 52 = k by omega] at h9
  by_cases h5 : k < 78
  · have h9 := okM_c5 (k - 65) (by omega)
    rwa [show k - 65 + 65 = k by omega] at h9
  by_cases h6 : k < 91
  · have h9 := okM_c6 (k - 78) (by omega)
    rwa [show k - 78 + 78 = k by omega] at h9
  by_cases h7 : k < 104
  · have h9 := okM_c7 (k - 91) (by omega)
    rwa [show k - 91 + 91 = k by omega] at h9
  by_cases h8 : k < 117
  · have h9 := okM_c8 (k - 104) (by omega)
    rwa [show k - 104 + 104 = k by omega] at h9
  by_cases h9 : k < 130
  · have h9 := okM_c9 (k - 117) (by omega)
    rwa [show k - 117 + 117 = k by omega] at h9
  by_cases h10 : k < 143
  · have h9 := okM_c10 (k - 130) (by omega)
    rwa [show k - 130 + 130 = k by omega] at h9
  by_cases h11 : k < 156
  · have h9 := okM_c11 (k - 143) (by omega)
    rwa [show k - 143 + 143 = k by omega] at h9
  by_cases h12 : k < 169
  · have h9 := okM_c12 (k - 156) (by omega)
    rwa [show k - 156 + 156 = k by omega] at h9
  by_cases h13 : k < 182
  · have h9 := okM_c13 (k - 169) (by omega)
    rwa [show k - 169 + 169 = k by omega] at h9
  by_cases h14 : k < 195
  · have h9 := okM_c14 (k - 182) (by omega)
    rwa [show k - 182 + 182 = k by omega] at h9
  by_cases h15 : k < 208
  · have h9 := okM_c15 (k - 195) (by omega)
    rwa [show k - 195 + 195 = k by omega] at h9
  by_cases h16 : k < 221
  · have h9 := okM_c16 (k - 208) (by omega)
    rwa [show k - 208 + 208 = k by omega] at h9
  by_cases h17 : k < 234
  · have h9 := okM_c17 (k - 221) (by omega)
    rwa [show k - 221 + 221 = k by omega] at h9
  by_cases h18 : k < 247
  · have h9 := okM_c18 (k - 234) (by omega)
    rwa [show k - 234 + 234 = k by omega] at h9
  by_cases h19 : k < 260
  · have h9 := okM_c19 (k - 247) (by omega)
    rwa [show k - 247 + 247 = k by omega] at h9
  by_cases h20 : k < 273
  · have h9 := okM_c20 (k - 260) (by omega)
    rwa [show k - 260 + 260 = k by omega] at h9
  by_cases h21 : k < 286
  · have h9 := okM_c21 (k - 273) (by omega)
    rwa [show k - 273 + 273 = k by omega] at h9
  by_cases h22 : k < 299
  · have h9 := okM_c22 (k - 286) (by omega)
    rwa [show k - 286 + 286 = k by omega] at h9
  by_cases h23 : k < 312
  · have h9 := okM_c23 (k - 299) (by omega)
    rwa [show k - 299 + 299 = k by omega] at h9
  by_cases h24 : k < 325
  · have h9 := okM_c24 (k - 312) (by omega)
    rwa [show k - 312 + 312 = k by omega] at h9
  by_cases h25 : k < 338
  · have h9 := okM_c25 (k - 325) (by omega)
    rwa [show k - 325 + 325 = k by omega] at h9
  by_cases h26 : k < 351
  · have h9 := okM_c26 (k - 338) (by omega)
    rwa [show k - 338 + 338 = k by omega] at h9
  omega
theorem okMb_c0 : ∀ k, k < 13 → (okMs (k + 0) = true → okMb (k + 0) = true) := by decide +kernel
theorem okMb_c1 : ∀ k, k < 13 → (okMs (k + 13) = true → okMb (k + 13) = true) := by decide +kernel
theorem okMb_c2 : ∀ k, k < 13 → (okMs (k + 26) = true → okMb (k + 26) = true) := by decide +kernel
theorem okMb_c3 : ∀ k, k < 13 → (okMs (k + 39) = true → okMb (k + 39) = true) := by decide +kernel
theorem okMb_c4 : ∀ k, k < 13 → (okMs (k + 52) = true → okMb (k + 52) = true) := by decide +kernel
theorem okMb_c5 : ∀ k, k < 13 → (okMs (k + 65) = true → okMb (k + 65) = true) := by decide +kernel
theorem okMb_c6 : ∀ k, k < 13 → (okMs (k + 78) = true → okMb (k + 78) = true) := by decide +kernel
theorem okMb_c7 : ∀ k, k < 13 → (okMs (k + 91) = true → okMb (k + 91) = true) := by decide +kernel
theorem okMb_c8 : ∀ k, k < 13 → (okMs (k + 104) = true → okMb (k + 104) = true) := by decide +kernel
theorem okMb_c9 : ∀ k, k < 13 → (okMs (k + 117) = true → okMb (k + 117) = true) := by decide +kernel
theorem okMb_c10 : ∀ k, k < 13 → (okMs (k + 130) = true → okMb (k + 130) = true) := by decide +kernel
theorem okMb_c11 : ∀ k, k < 13 → (okMs (k + 143) = true → okMb (k + 143) = true) := by decide +kernel
theorem okMb_c12 : ∀ k, k < 13 → (okMs (k + 156) = true → okMb (k + 156) = true) := by decide +kernel
theorem okMb_c13 : ∀ k, k < 13 → (okMs (k + 169) = true → okMb (k + 169) = true) := by decide +kernel
theorem okMb_c14 : ∀ k, k < 13 → (okMs (k + 182) = true → okMb (k + 182) = true) := by decide +kernel
theorem okMb_c15 : ∀ k, k < 13 → (okMs (k + 195) = true → okMb (k + 195) = true) := by decide +kernel
theorem okMb_c16 : ∀ k, k < 13 → (okMs (k + 208) = true → okMb (k + 208) = true) := by decide +kernel
theorem okMb_c17 : ∀ k, k < 13 → (okMs (k + 221) = true → okMb (k + 221) = true) := by decide +kernel
theorem okMb_c18 : ∀ k, k < 13 → (okMs (k + 234) = true → okMb (k + 234) = true) := by decide +kernel
theorem okMb_c19 : ∀ k, k < 13 → (okMs (k + 247) = true → okMb (k + 247) = true) := by decide +kernel
theorem okMb_c20 : ∀ k, k < 13 → (okMs (k + 260) = true → okMb (k + 260) = true) := by decide +kernel
theorem okMb_c21 : ∀ k, k < 13 → (okMs (k + 273) = true → okMb (k + 273) = true) := by decide +kernel
theorem okMb_c22 : ∀ k, k < 13 → (okMs (k + 286) = true → okMb (k + 286) = true) := by decide +kernel
theorem okMb_c23 : ∀ k, k < 13 → (okMs (k + 299) = true → okMb (k + 299) = true) := by decide +kernel
theorem okMb_c24 : ∀ k, k < 13 → (okMs (k + 312) = true → okMb (k + 312) = true) := by decide +kernel
theorem okMb_c25 : ∀ k, k < 13 → (okMs (k + 325) = true → okMb (k + 325) = true) := by decide +kernel
theorem okMb_c26 : ∀ k, k < 13 → (okMs (k + 338) = true → okMb (k + 338) = true) := by decide +kernel
theorem okMb_all : ∀ k, k < 351 → okMs k = true → okMb k = true := by
  intro k hk
  by_cases h0 : k < 13
  · have h9 := okMb_c0 (k - 0) (by omega)
    rwa [show k - 0 + 0 = k by omega] at h9
  by_cases h1 : k < 26
  · have h9 := okMb_c1 (k - 13) (by omega)
    rwa [show k - 13 + 13 = k by omega] at h9
  by_cases h2 : k < 39
  · have h9 := okMb_c2 (k - 26) (by omega)
    rwa [show k - 26 + 26 = k by omega] at h9
  by_cases h3 : k < 52
  · have h9 := okMb_c3 (k - 39) (by omega)
    rwa [show k - 39 + 39 = k by omega] at h9
  by_cases h4 : k < 65
  · have h9 := okMb_c4 (k - 52) (by omega)
    rwa [show k - 52 + 52 = k by omega] at h9
  by_cases h5 : k < 78
  · have h9 := okMb_c5 (k - 65) (by omega)
    rwa [show k - 65 + 65 = k by omega] at h9
  by_cases h6 : k < 91
  · have h9 := okMb_c6 (k - 78) (by omega)
    rwa [show k - 78 + 78 = k by omega] at h9
  by_cases h7 : k < 104
  · have h9 := okMb_c7 (k - 91) (by omega)
    rwa [show k - 91 + 91 = k by omega] at h9
  by_cases h8 : k < 117
  · have h9 := okMb_c8 (k - 104) (by omega)
    rwa [show k - 104 + 104 = k by omega] at h9
  by_cases h9 : k < 130
  · have h9 := okMb_c9 (k - 117) (by omega)
    rwa [show k - 117 + 117 = k by omega] at h9
  by_cases h10 : k < 143
  · have h9 := okMb_c10 (k - 130) (by omega)
    rwa [show k - 130 + 130 = k by omega] at h9
  by_cases h11 : k < 156
  · have h9 := okMb_c11 (k - 143) (by omega)
    rwa [show k - 143 + 143 = k by omega] at h9
  by_cases h12 : k < 169
  · have h9 := okMb_c12 (k - 156) (by omega)
    rwa [show k - 156 + 156 = k by omega] at h9
  by_cases h13 : k < 182
  · have h9 := okMb_c13 (k - 169) (by omega)
    rwa [show k - 169 + 169 = k by omega] at h9
  by_cases h14 : k < 195
  · have h9 := okMb_c14 (k - 182) (by omega)
    rwa [show k - 182 + 182 = k by omega] at h9
  by_cases h15 : k < 208
  · have h9 := okMb_c15 (k - 195) (by omega)
    rwa [show k - 195 + 195 = k by omega] at h9
  by_cases h16 : k < 221
  · have h9 := okMb_c16 (k - 208) (by omega)
    rwa [show k - 208 + 208 = k by omega] at h9
  by_cases h17 : k < 234
  · have h9 := okMb_c17 (k - 221) (by omega)
    rwa [show k - 221 + 221 = k by omega] at h9
  by_cases h18 : k < 247
  · have h9 := okMb_c18 (k - 234) (by omega)
    rwa [show k - 234 + 234 = k by omega] at h9
  by_cases h19 : k < 260
  · have h9 := okMb_c19 (k - 247) (by omega)
    rwa [show k - 247 + 247 = k by omega] at h9
  by_cases h20 : k < 273
  · have h9 := okMb_c20 (k - 260) (by omega)
    rwa [show k - 260 + 260 = k by omega] at h9
  by_cases h21 : k < 286
  · have h9 := okMb_c21 (k - 273) (by omega)
    rwa [show k - 273 + 273 = k by omega] at h9
  by_cases h22 : k < 299
  · have h9 := okMb_c22 (k - 286) (by omega)
    rwa [show k - 286 + 286 = k by omega] at h9
  by_cases h23 : k < 312
  · have h9 := okMb_c23 (k - 299) (by omega)
    rwa [show k - 299 + 299 = k by omega] at h9
  by_cases h24 : k < 325
  · have h9 := okMb_c24 (k - 312) (by omega)
    rwa [show k - 312 + 312 = k by omega] at h9
  by_cases h25 : k < 338
  · have h9 := okMb_c25 (k - 325) (by omega)
    rwa [show k - 325 + 325 = k by omega] at h9
  by_cases h26 : k < 351
  · have h9 := okMb_c26 (k - 338) (by omega)
    rwa [show k - 338 + 338 = k by omega] at h9
  omega
theorem okno_all : ∀ k, k < 351 → (okMs k = false → (xtl.getD k []).isEmpty = true) := by decide +kernel
theorem okno : ∀ k, k < 351 → okMs k = false → xtl.getD k [] = [] := fun k hk h => List.isEmpty_iff.mp (okno_all k hk h)
