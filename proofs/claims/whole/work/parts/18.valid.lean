theorem am_vb_all {q : Nat} (h : q ≤ am_NM) : am_vb q = true := by
  have h : q ≤ 271 := h
  by_cases h0 : q < 17
  · have := am_va0 (q - 0) (by omega)
    rwa [show 0 + (q - 0) = q by omega] at this
  by_cases h1 : q < 34
  · have := am_va1 (q - 17) (by omega)
    rwa [show 17 + (q - 17) = q by omega] at this
  by_cases h2 : q < 51
  · have := am_va2 (q - 34) (by omega)
    rwa [show 34 + (q - 34) = q by omega] at this
  by_cases h3 : q < 68
  · have := am_va3 (q - 51) (by omega)
    rwa [show 51 + (q - 51) = q by omega] at this
  by_cases h4 : q < 85
  · have := am_va4 (q - 68) (by omega)
    rwa [show 68 + (q - 68) = q by omega] at this
  by_cases h5 : q < 102
  · have := am_va5 (q - 85) (by omega)
    rwa [show 85 + (q - 85) = q by omega] at this
  by_cases h6 : q < 119
  · have := am_va6 (q - 102) (by omega)
    rwa [show 102 + (q - 102) = q by omega] at this
  by_cases h7 : q < 136
  · have := am_va7 (q - 119) (by omega)
    rwa [show 119 + (q - 119) = q by omega] at this
  by_cases h8 : q < 153
  · have := am_va8 (q - 136) (by omega)
    rwa [show 136 + (q - 136) = q by omega] at this
  by_cases h9 : q < 170
  · have := am_va9 (q - 153) (by omega)
    rwa [show 153 + (q - 153) = q by omega] at this
  by_cases h10 : q < 187
  · have := am_va10 (q - 170) (by omega)
    rwa [show 170 + (q - 170) = q by omega] at this
  by_cases h11 : q < 204
  · have := am_va11 (q - 187) (by omega)
    rwa [show 187 + (q - 187) = q by omega] at this
  by_cases h12 : q < 221
  · have := am_va12 (q - 204) (by omega)
    rwa [show 204 + (q - 204) = q by omega] at this
  by_cases h13 : q < 238
  · have := am_va13 (q - 221) (by omega)
    rwa [show 221 + (q - 221) = q by omega] at this
  by_cases h14 : q < 255
  · have := am_va14 (q - 238) (by omega)
    rwa [show 238 + (q - 238) = q by omega] at this
  by_cases h15 : q < 272
  · have := am_va15 (q - 255) (by omega)
    rwa [show 255 + (q - 255) = q by omega] at this
  · omega
theorem am_o2_all {q : Nat} (h0 : 0 < q ∧ q < am_NM) : am_ok2 q := by
  have h0 : 0 < q ∧ q < 271 := h0
  by_cases h0 : q < 18
  · have := am_vo0 (q - 0 - 1) (by omega)
    rw [show 0 + (q - 0 - 1) + 1 = q by omega] at this
    exact am_o2_ok this
  by_cases h1 : q < 35
  · have := am_vo1 (q - 17 - 1) (by omega)
    rw [show 17 + (q - 17 - 1) + 1 = q by omega] at this
    exact am_o2_ok this
  by_cases h2 : q < 52
  · have := am_vo2 (q - 34 - 1) (by omega)
    rw [show 34 + (q - 34 - 1) + 1 = q by omega] at this
    exact am_o2_ok this
  by_cases h3 : q < 69
  · have := am_vo3 (q - 51 - 1) (by omega)
    rw [show 51 + (q - 51 - 1) + 1 = q by omega] at this
    exact am_o2_ok this
  by_cases h4 : q < 86
  · have := am_vo4 (q - 68 - 1) (by omega)
    rw [show 68 + (q - 68 - 1) + 1 = q by omega] at this
    exact am_o2_ok this
  by_cases h5 : q < 103
  · have := am_vo5 (q - 85 - 1) (by omega)
    rw [show 85 + (q - 85 - 1) + 1 = q by omega] at this
    exact am_o2_ok this
  by_cases h6 : q < 120
  · have := am_vo6 (q - 102 - 1) (by omega)
    rw [show 102 + (q - 102 - 1) + 1 = q by omega] at this
    exact am_o2_ok this
  by_cases h7 : q < 137
  · have := am_vo7 (q - 119 - 1) (by omega)
    rw [show 119 + (q - 119 - 1) + 1 = q by omega] at this
    exact am_o2_ok this
  by_cases h8 : q < 154
  · have := am_vo8 (q - 136 - 1) (by omega)
    rw [show 136 + (q - 136 - 1) + 1 = q by omega] at this
    exact am_o2_ok this
  by_cases h9 : q < 171
  · have := am_vo9 (q - 153 - 1) (by omega)
    rw [show 153 + (q - 153 - 1) + 1 = q by omega] at this
    exact am_o2_ok this
  by_cases h10 : q < 188
  · have := am_vo10 (q - 170 - 1) (by omega)
    rw [show 170 + (q - 170 - 1) + 1 = q by omega] at this
    exact am_o2_ok this
  by_cases h11 : q < 205
  · have := am_vo11 (q - 187 - 1) (by omega)
    rw [show 187 + (q - 187 - 1) + 1 = q by omega] at this
    exact am_o2_ok this
  by_cases h12 : q < 222
  · have := am_vo12 (q - 204 - 1) (by omega)
    rw [show 204 + (q - 204 - 1) + 1 = q by omega] at this
    exact am_o2_ok this
  by_cases h13 : q < 239
  · have := am_vo13 (q - 221 - 1) (by omega)
    rw [show 221 + (q - 221 - 1) + 1 = q by omega] at this
    exact am_o2_ok this
  by_cases h14 : q < 256
  · have := am_vo14 (q - 238 - 1) (by omega)
    rw [show 238 + (q - 238 - 1) + 1 = q by omega] at this
    exact am_o2_ok this
  by_cases h15 : q < 271
  · have := am_vo15 (q - 255 - 1) (by omega)
    rw [show 255 + (q - 255 - 1) + 1 = q by omega] at this
    exact am_o2_ok this
  · omega
