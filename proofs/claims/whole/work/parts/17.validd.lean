theorem am_va12 : ∀ q, q < 17 → am_vb (204 + q) = true := by decide +kernel
theorem am_vo12 : ∀ q, q < 17 → am_o2 (204 + q + 1) = true := by decide +kernel
