theorem am_va4 : ∀ q, q < 17 → am_vb (68 + q) = true := by decide +kernel
theorem am_vo4 : ∀ q, q < 17 → am_o2 (68 + q + 1) = true := by decide +kernel
theorem am_va5 : ∀ q, q < 17 → am_vb (85 + q) = true := by decide +kernel
theorem am_vo5 : ∀ q, q < 17 → am_o2 (85 + q + 1) = true := by decide +kernel
theorem am_va6 : ∀ q, q < 17 → am_vb (102 + q) = true := by decide +kernel
theorem am_vo6 : ∀ q, q < 17 → am_o2 (102 + q + 1) = true := by decide +kernel
theorem am_va7 : ∀ q, q < 17 → am_vb (119 + q) = true := by decide +kernel
theorem am_vo7 : ∀ q, q < 17 → am_o2 (119 + q + 1) = true := by decide +kernel
