theorem am_va14 : ∀ q, q < 17 → am_vb (238 + q) = true := by decide +kernel
theorem am_vo14 : ∀ q, q < 17 → am_o2 (238 + q + 1) = true := by decide +kernel
