theorem am_va13 : ∀ q, q < 17 → am_vb (221 + q) = true := by decide +kernel
theorem am_vo13 : ∀ q, q < 17 → am_o2 (221 + q + 1) = true := by decide +kernel
