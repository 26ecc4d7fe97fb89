theorem am_va12 : ∀ q, q < 17 → am_vb (204 + q) = true := by decide +kernel
theorem am_vo12 : ∀ q, q < 17 → am_o2 (204 + q + 1) = true := by decide +kernel
theorem am_va13 : ∀ q, q < 17 → am_vb (221 + q) = true := by decide +kernel
theorem am_vo13 : ∀ q, q < 17 → am_o2 (221 + q + 1) = true := by decide +kernel
theorem am_va14 : ∀ q, q < 17 → am_vb (238 + q) = true := by decide +kernel
theorem am_vo14 : ∀ q, q < 17 → am_o2 (238 + q + 1) = true := by decide +kernel
theorem am_va15 : ∀ q, q < 17 → am_vb (255 + q) = true := by decide +kernel
theorem am_vo15 : ∀ q, q < 15 → am_o2 (255 + q + 1) = true := by decide +kernel
