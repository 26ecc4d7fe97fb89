theorem am_va8 : ∀ q, q < 17 → am_vb (136 + q) = true := by decide +kernel
theorem am_vo8 : ∀ q, q < 17 → am_o2 (136 + q + 1) = true := by decide +kernel
theorem am_va9 : ∀ q, q < 17 → am_vb (153 + q) = true := by decide +kernel
theorem am_vo9 : ∀ q, q < 17 → am_o2 (153 + q + 1) = true := by decide +kernel
theorem am_va10 : ∀ q, q < 17 → am_vb (170 + q) = true := by decide +kernel
theorem am_vo10 : ∀ q, q < 17 → am_o2 (170 + q + 1) = true := by decide +kernel
theorem am_va11 : ∀ q, q < 17 → am_vb (187 + q) = true := by decide +kernel
theorem am_vo11 : ∀ q, q < 17 → am_o2 (187 + q + 1) = true := by decide +kernel
