theorem am_va15 : ∀ q, q < 16 → am_vb (255 + q) = true := by decide +kernel
theorem am_vo15 : ∀ q, q < 15 → am_o2 (255 + q + 1) = true := by decide +kernel
