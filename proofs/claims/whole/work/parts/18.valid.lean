theorem am_row_app {own : String} {cc : ByteArray} {nL fr lo : Nat} {ini : Bool} {rt : Option FieldType} {pcs : Nat → Nat} : ∀ (r1 : List (Nat × Instr × Nat × Nat)) (c1 : List Instr) (k : Nat) (r2 : List (Nat × Instr × Nat × Nat)) (c2 : List Instr), am_row own cc nL fr lo ini rt pcs k r1 c1 = true → am_row own cc nL fr lo ini rt pcs (k + c1.length) r2 c2 = true → am_row own cc nL fr lo ini rt pcs k (r1 ++ r2) (c1 ++ c2) = true
  | [], [], k, r2, c2, _, h => h
  | [], _ :: _, _, _, _, h, _ => by simp [am_row] at h
  | _ :: _, [], _, _, _, h, _ => by simp [am_row] at h
  | (pc, ri, len, hint) :: r1, ai :: c1, k, r2, c2, h, h2 => by
    simp only [am_row, Bool.and_eq_true, List.cons_append] at h ⊢
    refine ⟨h.1, h.2.1, h.2.2.1, am_row_app r1 c1 (k + 1) r2 c2 h.2.2.2 ?_⟩
    rw [show k + 1 + c1.length = k + (ai :: c1).length by simp; omega]
    exact h2
theorem am_ll9 : am_vb 271 = true ↔ am_pc 271 0 = 0 ∧ am_row (am_y 271).cls (am_cc 271) (am_nl 271) (am_fr 271) (am_lo 271) (decide ((am_y 271).name = "<init>")) (am_rt 271) (am_pc 271) 0 am_r271 am_c271 = true := by
  unfold am_vb
  rw [Bool.and_eq_true, decide_eq_true_eq]
  exact Iff.rfl
theorem am_vb_law : am_vb 271 = true := by
  refine am_ll9.mpr ⟨by decide +kernel, ?_⟩
  have h5 := am_vl5
  have h4 : am_row (am_y 271).cls (am_cc 271) (am_nl 271) (am_fr 271) (am_lo 271) (decide ((am_y 271).name = "<init>")) (am_rt 271) (am_pc 271) 616 (am_r271.drop 616) (am_c271.drop 616) = true := by
    have e1 : am_r271.drop 616 = (am_r271.drop 616).take 154 ++ am_r271.drop 770 := by rw [← List.drop_drop (i := 154) (j := 616)]; exact (List.take_append_drop 154 _).symm
    have e2 : am_c271.drop 616 = (am_c271.drop 616).take 154 ++ am_c271.drop 770 := by rw [← List.drop_drop (i := 154) (j := 616)]; exact (List.take_append_drop 154 _).symm
    have e3 : ((am_c271.drop 616).take 154).length = 154 := by decide +kernel
    rw [e1, e2]
    exact am_row_app _ _ _ _ _ am_vl4 (by rw [e3]; exact h5)
  have h3 : am_row (am_y 271).cls (am_cc 271) (am_nl 271) (am_fr 271) (am_lo 271) (decide ((am_y 271).name = "<init>")) (am_rt 271) (am_pc 271) 462 (am_r271.drop 462) (am_c271.drop 462) = true := by
    have e1 : am_r271.drop 462 = (am_r271.drop 462).take 154 ++ am_r271.drop 616 := by rw [← List.drop_drop (i := 154) (j := 462)]; exact (List.take_append_drop 154 _).symm
    have e2 : am_c271.drop 462 = (am_c271.drop 462).take 154 ++ am_c271.drop 616 := by rw [← List.drop_drop (i := 154) (j := 462)]; exact (List.take_append_drop 154 _).symm
    have e3 : ((am_c271.drop 462).take 154).length = 154 := by decide +kernel
    rw [e1, e2]
    exact am_row_app _ _ _ _ _ am_vl3 (by rw [e3]; exact h4)
  have h2 : am_row (am_y 271).cls (am_cc 271) (am_nl 271) (am_fr 271) (am_lo 271) (decide ((am_y 271).name = "<init>")) (am_rt 271) (am_pc 271) 308 (am_r271.drop 308) (am_c271.drop 308) = true := by
    have e1 : am_r271.drop 308 = (am_r271.drop 308).take 154 ++ am_r271.drop 462 := by rw [← List.drop_drop (i := 154) (j := 308)]; exact (List.take_append_drop 154 _).symm
    have e2 : am_c271.drop 308 = (am_c271.drop 308).take 154 ++ am_c271.drop 462 := by rw [← List.drop_drop (i := 154) (j := 308)]; exact (List.take_append_drop 154 _).symm
    have e3 : ((am_c271.drop 308).take 154).length = 154 := by decide +kernel
    rw [e1, e2]
    exact am_row_app _ _ _ _ _ am_vl2 (by rw [e3]; exact h3)
  have h1 : am_row (am_y 271).cls (am_cc 271) (am_nl 271) (am_fr 271) (am_lo 271) (decide ((am_y 271).name = "<init>")) (am_rt 271) (am_pc 271) 154 (am_r271.drop 154) (am_c271.drop 154) = true := by
    have e1 : am_r271.drop 154 = (am_r271.drop 154).take 154 ++ am_r271.drop 308 := by rw [← List.drop_drop (i := 154) (j := 154)]; exact (List.take_append_drop 154 _).symm
    have e2 : am_c271.drop 154 = (am_c271.drop 154).take 154 ++ am_c271.drop 308 := by rw [← List.drop_drop (i := 154) (j := 154)]; exact (List.take_append_drop 154 _).symm
    have e3 : ((am_c271.drop 154).take 154).length = 154 := by decide +kernel
    rw [e1, e2]
    exact am_row_app _ _ _ _ _ am_vl1 (by rw [e3]; exact h2)
  have h0 : am_row (am_y 271).cls (am_cc 271) (am_nl 271) (am_fr 271) (am_lo 271) (decide ((am_y 271).name = "<init>")) (am_rt 271) (am_pc 271) 0 (am_r271.drop 0) (am_c271.drop 0) = true := by
    have e1 : am_r271.drop 0 = (am_r271.drop 0).take 154 ++ am_r271.drop 154 := by rw [← List.drop_drop (i := 154) (j := 0)]; exact (List.take_append_drop 154 _).symm
    have e2 : am_c271.drop 0 = (am_c271.drop 0).take 154 ++ am_c271.drop 154 := by rw [← List.drop_drop (i := 154) (j := 0)]; exact (List.take_append_drop 154 _).symm
    have e3 : ((am_c271.drop 0).take 154).length = 154 := by decide +kernel
    rw [e1, e2]
    exact am_row_app _ _ _ _ _ am_vl0 (by rw [e3]; exact h1)
  exact h0
theorem am_vb_all {q : Nat} (h : q ≤ am_NM) : am_vb q = true := by
  have h : q ≤ 271 := h
  by_cases h0 : q < 17
  · have := am_va0 (q - 0) (by omega)
    rwa [show 0 + (q - 0) = q by omega] at this
  by_cases h1 : q < 34
  · have := am_va1 (q - 17) (by omega)
    rwa [show 17 + (q - 17) = q by omega] at this
  by_cases h2 : q < 51
  · have := am_va2 (q - 34) (by omega)
    rwa [show 34 + (q - 34) = q by omega] at this
  by_cases h3 : q < 68
  · have := am_va3 (q - 51) (by omega)
    rwa [show 51 + (q - 51) = q by omega] at this
  by_cases h4 : q < 85
  · have := am_va4 (q - 68) (by omega)
    rwa [show 68 + (q - 68) = q by omega] at this
  by_cases h5 : q < 102
  · have := am_va5 (q - 85) (by omega)
    rwa [show 85 + (q - 85) = q by omega] at this
  by_cases h6 : q < 119
  · have := am_va6 (q - 102) (by omega)
    rwa [show 102 + (q - 102) = q by omega] at this
  by_cases h7 : q < 136
  · have := am_va7 (q - 119) (by omega)
    rwa [show 119 + (q - 119) = q by omega] at this
  by_cases h8 : q < 153
  · have := am_va8 (q - 136) (by omega)
    rwa [show 136 + (q - 136) = q by omega] at this
  by_cases h9 : q < 170
  · have := am_va9 (q - 153) (by omega)
    rwa [show 153 + (q - 153) = q by omega] at this
  by_cases h10 : q < 187
  · have := am_va10 (q - 170) (by omega)
    rwa [show 170 + (q - 170) = q by omega] at this
  by_cases h11 : q < 204
  · have := am_va11 (q - 187) (by omega)
    rwa [show 187 + (q - 187) = q by omega] at this
  by_cases h12 : q < 221
  · have := am_va12 (q - 204) (by omega)
    rwa [show 204 + (q - 204) = q by omega] at this
  by_cases h13 : q < 238
  · have := am_va13 (q - 221) (by omega)
    rwa [show 221 + (q - 221) = q by omega] at this
  by_cases h14 : q < 255
  · have := am_va14 (q - 238) (by omega)
    rwa [show 238 + (q - 238) = q by omega] at this
  by_cases h15 : q < 271
  · have := am_va15 (q - 255) (by omega)
    rwa [show 255 + (q - 255) = q by omega] at this
  · have e : q = 271 := by omega
    subst e
    exact am_vb_law
theorem am_o2_all {q : Nat} (h0 : 0 < q ∧ q < am_NM) : am_ok2 q := by
  have h0 : 0 < q ∧ q < 271 := h0
  by_cases h0 : q < 18
  · have := am_vo0 (q - 0 - 1) (by omega)
    rw [show 0 + (q - 0 - 1) + 1 = q by omega] at this
    exact am_o2_ok this
  by_cases h1 : q < 35
  · have := am_vo1 (q - 17 - 1) (by omega)
    rw [show 17 + (q - 17 - 1) + 1 = q by omega] at this
    exact am_o2_ok this
  by_cases h2 : q < 52
  · have := am_vo2 (q - 34 - 1) (by omega)
    rw [show 34 + (q - 34 - 1) + 1 = q by omega] at this
    exact am_o2_ok this
  by_cases h3 : q < 69
  · have := am_vo3 (q - 51 - 1) (by omega)
    rw [show 51 + (q - 51 - 1) + 1 = q by omega] at this
    exact am_o2_ok this
  by_cases h4 : q < 86
  · have := am_vo4 (q - 68 - 1) (by omega)
    rw [show 68 + (q - 68 - 1) + 1 = q by omega] at this
    exact am_o2_ok this
  by_cases h5 : q < 103
  · have := am_vo5 (q - 85 - 1) (by omega)
    rw [show 85 + (q - 85 - 1) + 1 = q by omega] at this
    exact am_o2_ok this
  by_cases h6 : q < 120
  · have := am_vo6 (q - 102 - 1) (by omega)
    rw [show 102 + (q - 102 - 1) + 1 = q by omega] at this
    exact am_o2_ok this
  by_cases h7 : q < 137
  · have := am_vo7 (q - 119 - 1) (by omega)
    rw [show 119 + (q - 119 - 1) + 1 = q by omega] at this
    exact am_o2_ok this
  by_cases h8 : q < 154
  · have := am_vo8 (q - 136 - 1) (by omega)
    rw [show 136 + (q - 136 - 1) + 1 = q by omega] at this
    exact am_o2_ok this
  by_cases h9 : q < 171
  · have := am_vo9 (q - 153 - 1) (by omega)
    rw [show 153 + (q - 153 - 1) + 1 = q by omega] at this
    exact am_o2_ok this
  by_cases h10 : q < 188
  · have := am_vo10 (q - 170 - 1) (by omega)
    rw [show 170 + (q - 170 - 1) + 1 = q by omega] at this
    exact am_o2_ok this
  by_cases h11 : q < 205
  · have := am_vo11 (q - 187 - 1) (by omega)
    rw [show 187 + (q - 187 - 1) + 1 = q by omega] at this
    exact am_o2_ok this
  by_cases h12 : q < 222
  · have := am_vo12 (q - 204 - 1) (by omega)
    rw [show 204 + (q - 204 - 1) + 1 = q by omega] at this
    exact am_o2_ok this
  by_cases h13 : q < 239
  · have := am_vo13 (q - 221 - 1) (by omega)
    rw [show 221 + (q - 221 - 1) + 1 = q by omega] at this
    exact am_o2_ok this
  by_cases h14 : q < 256
  · have := am_vo14 (q - 238 - 1) (by omega)
    rw [show 238 + (q - 238 - 1) + 1 = q by omega] at this
    exact am_o2_ok this
  by_cases h15 : q < 271
  · have := am_vo15 (q - 255 - 1) (by omega)
    rw [show 255 + (q - 255 - 1) + 1 = q by omega] at this
    exact am_o2_ok this
  · omega
