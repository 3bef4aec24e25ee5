theorem okC_a0 : ∀ k, k < 39 → (okCs (k + 0) = true → okC (k + 0) = true) := by decide +kernel
theorem okC_a1 : ∀ k, k < 39 → (okCs (k + 39) = true → okC (k + 39) = true) := by decide +kernel
theorem okC_a2 : ∀ k, k < 39 → (okCs (k + 78) = true → okC (k + 78) = true) := by decide +kernel
theorem okC_a3 : ∀ k, k < 39 → (okCs (k + 117) = true → okC (k + 117) = true) := by decide +kernel
theorem okC_a4 : ∀ k, k < 39 → (okCs (k + 156) = true → okC (k + 156) = true) := by decide +kernel
theorem okC_a5 : ∀ k, k < 39 → (okCs (k + 195) = true → okC (k + 195) = true) := by decide +kernel
theorem okC_a6 : ∀ k, k < 39 → (okCs (k + 234) = true → okC (k + 234) = true) := by decide +kernel
theorem okC_a7 : ∀ k, k < 39 → (okCs (k + 273) = true → okC (k + 273) = true) := by decide +kernel
theorem okC_a8 : ∀ k, k < 39 → (okCs (k + 312) = true → okC (k + 312) = true) := by decide +kernel
theorem okC_all : ∀ k, k < 351 → (okCs k = true → okC k = true) := by
  intro k hk
  by_cases h0 : k < 39
  · have h9 := okC_a0 (k - 0) (by omega)
    rwa [show k - 0 + 0 = k by omega] at h9
  by_cases h1 : k < 78
  · have h9 := okC_a1 (k - 39) (by omega)
    rwa [show k - 39 + 39 = k by omega] at h9
  by_cases h2 : k < 117
  · have h9 := okC_a2 (k - 78) (by omega)
    rwa [show k - 78 + 78 = k by omega] at h9
  by_cases h3 : k < 156
  · have h9 := okC_a3 (k - 117) (by omega)
    rwa [show k - 117 + 117 = k by omega] at h9
  by_cases h4 : k < 195
  · have h9 := okC_a4 (k - 156) (by omega)
    rwa [show k - 156 + 156 = k by omega] at h9
  by_cases h5 : k < 234
  · have h9 := okC_a5 (k - 195) (by omega)
    rwa [show k - 195 + 195 = k by omega] at h9
  by_cases h6 : k < 273
  · have h9 := okC_a6 (k - 234) (by omega)
    rwa [show k - 234 + 234 = k by omega] at h9
  by_cases h7 : k < 312
  · have h9 := okC_a7 (k - 273) (by omega)
    rwa [show k - 273 + 273 = k by omega] at h9
  by_cases h8 : k < 351
  · have h9 := okC_a8 (k - 312) (by omega)
    rwa [show k - 312 + 312 = k by omega] at h9
  omega
