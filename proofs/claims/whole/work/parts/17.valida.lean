theorem am_va0 : ∀ q, q < 17 → am_vb (0 + q) = true := by decide +kernel
theorem am_vo0 : ∀ q, q < 17 → am_o2 (0 + q + 1) = true := by decide +kernel
theorem am_va1 : ∀ q, q < 17 → am_vb (17 + q) = true := by decide +kernel
theorem am_vo1 : ∀ q, q < 17 → am_o2 (17 + q + 1) = true := by decide +kernel
theorem am_va2 : ∀ q, q < 17 → am_vb (34 + q) = true := by decide +kernel
theorem am_vo2 : ∀ q, q < 17 → am_o2 (34 + q + 1) = true := by decide +kernel
theorem am_va3 : ∀ q, q < 17 → am_vb (51 + q) = true := by decide +kernel
theorem am_vo3 : ∀ q, q < 17 → am_o2 (51 + q + 1) = true := by decide +kernel
