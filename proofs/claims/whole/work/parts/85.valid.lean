theorem am_row_app {own : String} {cc : ByteArray} {nL fr lo : Nat} {ini : Bool} {rt : Option FieldType} {pcs : Nat → Nat} : ∀ (r1 : List (Nat × Instr × Nat × Nat)) (c1 : List Instr) (k : Nat) (r2 : List (Nat × Instr × Nat × Nat)) (c2 : List Instr), am_row own cc nL fr lo ini rt pcs k r1 c1 = true → am_row own cc nL fr lo ini rt pcs (k + c1.length) r2 c2 = true → am_row own cc nL fr lo ini rt pcs k (r1 ++ r2) (c1 ++ c2) = true
  | [], [], k, r2, c2, _, h => h
  | [], _ :: _, _, _, _, h, _ => by simp [am_row] at h
  | _ :: _, [], _, _, _, h, _ => by simp [am_row] at h
  | (pc, ri, len, hint) :: r1, ai :: c1, k, r2, c2, h, h2 => by
    simp only [am_row, Bool.and_eq_true, List.cons_append] at h ⊢
    refine ⟨h.1, h.2.1, h.2.2.1, am_row_app r1 c1 (k + 1) r2 c2 h.2.2.2 ?_⟩
    rw [show k + 1 + c1.length = k + (ai :: c1).length by simp; omega]
    exact h2
theorem am_ll9 : am_vb 271 = true ↔ am_pc 271 0 = 0 ∧ am_row (am_y 271).cls (am_cc 271) (am_nl 271) (am_fr 271) (am_lo 271) (decide ((am_y 271).name = "<init>")) (am_rt 271) (am_pc 271) 0 am_r271 am_c271 = true := by
  unfold am_vb
  rw [Bool.and_eq_true, decide_eq_true_eq]
  exact Iff.rfl
theorem am_vb_law : am_vb 271 = true := by
  refine am_ll9.mpr ⟨by decide +kernel, ?_⟩
  have h5 := am_vl5
  have h4 : am_row (am_y 271).cls (am_cc 271) (am_nl 271) (am_fr 271) (am_lo 271) (decide ((am_y 271).name = "<init>")) (am_rt 271) (am_pc 271) 616 (am_r271.drop 616) (am_c271.drop 616) = true := by
    have e1 : am_r271.drop 616 = (am_r271.drop 616).take 154 ++ am_r271.drop 770 := by rw [← List.drop_drop (i := 154) (j := 616)]; exact (List.take_append_drop 154 _).symm
    have e2 : am_c271.drop 616 = (am_c271.drop 616).take 154 ++ am_c271.drop 770 := by rw [← List.drop_drop (i := 154) (j := 616)]; exact (List.take_append_drop 154 _).symm
    have e3 : ((am_c271.drop 616).take 154).length = 154 := by decide +kernel
    rw [e1, e2]
    exact am_row_app _ _ _ _ _ am_vl4 (by rw [e3]; exact h5)
  have h3 : am_row (am_y 271).cls (am_cc 271) (am_nl 271) (am_fr 271) (am_lo 271) (decide ((am_y 271).name = "<init>")) (am_rt 271) (am_pc 271) 462 (am_r271.drop 462) (am_c271.drop 462) = true := by
    have e1 : am_r271.drop 462 = (am_r271.drop 462).take 154 ++ am_r271.drop 616 := by rw [← List.drop_drop (i := 154) (j := 462)]; exact (List.take_append_drop 154 _).symm
    have e2 : am_c271.drop 462 = (am_c271.drop 462).take 154 ++ am_c271.drop 616 := by rw [← List.drop_drop (i := 154) (j := 462)]; exact (List.take_append_drop 154 _).symm
    have e3 : ((am_c271.drop 462).take 154).length = 154 := by decide +kernel
    rw [e1, e2]
    exact am_row_app _ _ _ _ _ am_vl3 (by rw [e3]; exact h4)
  have h2 : am_row (am_y 271).cls (am_cc 271) (am_nl 271) (am_fr 271) (am_lo 271) (decide ((am_y 271).name = "<init>")) (am_rt 271) (am_pc 271) 308 (am_r271.drop 308) (am_c271.drop 308) = true := by
    have e1 : am_r271.drop 308 = (am_r271.drop 308).take 154 ++ am_r271.drop 462 := by rw [← List.drop_drop (i := 154) (j := 308)]; exact (List.take_append_drop 154 _).symm
    have e2 : am_c271.drop 308 = (am_c271.drop 308).take 154 ++ am_c271.drop 462 := by rw [← List.drop_drop (i := 154) (j := 308)]; exact (List.take_append_drop 154 _).symm
    have e3 : ((am_c271.drop 308).take 154).length = 154 := by decide +kernel
    rw [e1, e2]
    exact am_row_app _ _ _ _ _ am_vl2 (by rw [e3]; exact h3)
  have h1 : am_row (am_y 271).cls (am_cc 271) (am_nl 271) (am_fr 271) (am_lo 271) (decide ((am_y 271).name = "<init>")) (am_rt 271) (am_pc 271) 154 (am_r271.drop 154) (am_c271.drop 154) = true := by
    have e1 : am_r271.drop 154 = (am_r271.drop 154).take 154 ++ am_r271.drop 308 := by rw [← List.drop_drop (i := 154) (j := 154)]; exact (List.take_append_drop 154 _).symm
    have e2 : am_c271.drop 154 = (am_c271.drop 154).take 154 ++ am_c271.drop 308 := by rw [← List.drop_drop (i := 154) (j := 154)]; exact (List.take_append_drop 154 _).symm
    have e3 : ((am_c271.drop 154).take 154).length = 154 := by decide +kernel
    rw [e1, e2]
    exact am_row_app _ _ _ _ _ am_vl1 (by rw [e3]; exact h2)
  have h0 : am_row (am_y 271).cls (am_cc 271) (am_nl 271) (am_fr 271) (am_lo 271) (decide ((am_y 271).name = "<init>")) (am_rt 271) (am_pc 271) 0 (am_r271.drop 0) (am_c271.drop 0) = true := by
    have e1 : am_r271.drop 0 = (am_r271.drop 0).take 154 ++ am_r271.drop 154 := by rw [← List.drop_drop (i := 154) (j := 0)]; exact (List.take_append_drop 154 _).symm
    have e2 : am_c271.drop 0 = (am_c271.drop 0).take 154 ++ am_c271.drop 154 := by rw [← List.drop_drop (i := 154) (j := 0)]; exact (List.take_append_drop 154 _).symm
    have e3 : ((am_c271.drop 0).take 154).length = 154 := by decide +kernel
    rw [e1, e2]
    exact am_row_app _ _ _ _ _ am_vl0 (by rw [e3]; exact h1)
  exact h0
theorem am_vb_all {q : Nat} (h : q ≤ am_NM) : am_vb q = true := by
  have h : q ≤ 271 := h
  by_cases hq : q < 271
  · by_cases h0_271 : q < 135
    · by_cases h0_135 : q < 67
      · by_cases h0_67 : q < 33
        · by_cases h0_33 : q < 16
          · by_cases h0_16 : q < 8
            · by_cases h0_8 : q < 4
              · by_cases h0_4 : q < 2
                · by_cases h0_2 : q < 1
                  · have e : q = 0 := by omega
                    subst e
                    exact am_va0
                  · have e : q = 1 := by omega
                    subst e
                    exact am_va1
                · by_cases h2_4 : q < 3
                  · have e : q = 2 := by omega
                    subst e
                    exact am_va2
                  · have e : q = 3 := by omega
                    subst e
                    exact am_va3
              · by_cases h4_8 : q < 6
                · by_cases h4_6 : q < 5
                  · have e : q = 4 := by omega
                    subst e
                    exact am_va4
                  · have e : q = 5 := by omega
                    subst e
                    exact am_va5
                · by_cases h6_8 : q < 7
                  · have e : q = 6 := by omega
                    subst e
                    exact am_va6
                  · have e : q = 7 := by omega
                    subst e
                    exact am_va7
            · by_cases h8_16 : q < 12
              · by_cases h8_12 : q < 10
                · by_cases h8_10 : q < 9
                  · have e : q = 8 := by omega
                    subst e
                    exact am_va8
                  · have e : q = 9 := by omega
                    subst e
                    exact am_va9
                · by_cases h10_12 : q < 11
                  · have e : q = 10 := by omega
                    subst e
                    exact am_va10
                  · have e : q = 11 := by omega
                    subst e
                    exact am_va11
              · by_cases h12_16 : q < 14
                · by_cases h12_14 : q < 13
                  · have e : q = 12 := by omega
                    subst e
                    exact am_va12
                  · have e : q = 13 := by omega
                    subst e
                    exact am_va13
                · by_cases h14_16 : q < 15
                  · have e : q = 14 := by omega
                    subst e
                    exact am_va14
                  · have e : q = 15 := by omega
                    subst e
                    exact am_va15
          · by_cases h16_33 : q < 24
            · by_cases h16_24 : q < 20
              · by_cases h16_20 : q < 18
                · by_cases h16_18 : q < 17
                  · have e : q = 16 := by omega
                    subst e
                    exact am_va16
                  · have e : q = 17 := by omega
                    subst e
                    exact am_va17
                · by_cases h18_20 : q < 19
                  · have e : q = 18 := by omega
                    subst e
                    exact am_va18
                  · have e : q = 19 := by omega
                    subst e
                    exact am_va19
              · by_cases h20_24 : q < 22
                · by_cases h20_22 : q < 21
                  · have e : q = 20 := by omega
                    subst e
                    exact am_va20
                  · have e : q = 21 := by omega
                    subst e
                    exact am_va21
                · by_cases h22_24 : q < 23
                  · have e : q = 22 := by omega
                    subst e
                    exact am_va22
                  · have e : q = 23 := by omega
                    subst e
                    exact am_va23
            · by_cases h24_33 : q < 28
              · by_cases h24_28 : q < 26
                · by_cases h24_26 : q < 25
                  · have e : q = 24 := by omega
                    subst e
                    exact am_va24
                  · have e : q = 25 := by omega
                    subst e
                    exact am_va25
                · by_cases h26_28 : q < 27
                  · have e : q = 26 := by omega
                    subst e
                    exact am_va26
                  · have e : q = 27 := by omega
                    subst e
                    exact am_va27
              · by_cases h28_33 : q < 30
                · by_cases h28_30 : q < 29
                  · have e : q = 28 := by omega
                    subst e
                    exact am_va28
                  · have e : q = 29 := by omega
                    subst e
                    exact am_va29
                · by_cases h30_33 : q < 31
                  · have e : q = 30 := by omega
                    subst e
                    exact am_va30
                  · by_cases h31_33 : q < 32
                    · have e : q = 31 := by omega
                      subst e
                      exact am_va31
                    · have e : q = 32 := by omega
                      subst e
                      exact am_va32
        · by_cases h33_67 : q < 50
          · by_cases h33_50 : q < 41
            · by_cases h33_41 : q < 37
              · by_cases h33_37 : q < 35
                · by_cases h33_35 : q < 34
                  · have e : q = 33 := by omega
                    subst e
                    exact am_va33
                  · have e : q = 34 := by omega
                    subst e
                    exact am_va34
                · by_cases h35_37 : q < 36
                  · have e : q = 35 := by omega
                    subst e
                    exact am_va35
                  · have e : q = 36 := by omega
                    subst e
                    exact am_va36
              · by_cases h37_41 : q < 39
                · by_cases h37_39 : q < 38
                  · have e : q = 37 := by omega
                    subst e
                    exact am_va37
                  · have e : q = 38 := by omega
                    subst e
                    exact am_va38
                · by_cases h39_41 : q < 40
                  · have e : q = 39 := by omega
                    subst e
                    exact am_va39
                  · have e : q = 40 := by omega
                    subst e
                    exact am_va40
            · by_cases h41_50 : q < 45
              · by_cases h41_45 : q < 43
                · by_cases h41_43 : q < 42
                  · have e : q = 41 := by omega
                    subst e
                    exact am_va41
                  · have e : q = 42 := by omega
                    subst e
                    exact am_va42
                · by_cases h43_45 : q < 44
                  · have e : q = 43 := by omega
                    subst e
                    exact am_va43
                  · have e : q = 44 := by omega
                    subst e
                    exact am_va44
              · by_cases h45_50 : q < 47
                · by_cases h45_47 : q < 46
                  · have e : q = 45 := by omega
                    subst e
                    exact am_va45
                  · have e : q = 46 := by omega
                    subst e
                    exact am_va46
                · by_cases h47_50 : q < 48
                  · have e : q = 47 := by omega
                    subst e
                    exact am_va47
                  · by_cases h48_50 : q < 49
                    · have e : q = 48 := by omega
                      subst e
                      exact am_va48
                    · have e : q = 49 := by omega
                      subst e
                      exact am_va49
          · by_cases h50_67 : q < 58
            · by_cases h50_58 : q < 54
              · by_cases h50_54 : q < 52
                · by_cases h50_52 : q < 51
                  · have e : q = 50 := by omega
                    subst e
                    exact am_va50
                  · have e : q = 51 := by omega
                    subst e
                    exact am_va51
                · by_cases h52_54 : q < 53
                  · have e : q = 52 := by omega
                    subst e
                    exact am_va52
                  · have e : q = 53 := by omega
                    subst e
                    exact am_va53
              · by_cases h54_58 : q < 56
                · by_cases h54_56 : q < 55
                  · have e : q = 54 := by omega
                    subst e
                    exact am_va54
                  · have e : q = 55 := by omega
                    subst e
                    exact am_va55
                · by_cases h56_58 : q < 57
                  · have e : q = 56 := by omega
                    subst e
                    exact am_va56
                  · have e : q = 57 := by omega
                    subst e
                    exact am_va57
            · by_cases h58_67 : q < 62
              · by_cases h58_62 : q < 60
                · by_cases h58_60 : q < 59
                  · have e : q = 58 := by omega
                    subst e
                    exact am_va58
                  · have e : q = 59 := by omega
                    subst e
                    exact am_va59
                · by_cases h60_62 : q < 61
                  · have e : q = 60 := by omega
                    subst e
                    exact am_va60
                  · have e : q = 61 := by omega
                    subst e
                    exact am_va61
              · by_cases h62_67 : q < 64
                · by_cases h62_64 : q < 63
                  · have e : q = 62 := by omega
                    subst e
                    exact am_va62
                  · have e : q = 63 := by omega
                    subst e
                    exact am_va63
                · by_cases h64_67 : q < 65
                  · have e : q = 64 := by omega
                    subst e
                    exact am_va64
                  · by_cases h65_67 : q < 66
                    · have e : q = 65 := by omega
                      subst e
                      exact am_va65
                    · have e : q = 66 := by omega
                      subst e
                      exact am_va66
      · by_cases h67_135 : q < 101
        · by_cases h67_101 : q < 84
          · by_cases h67_84 : q < 75
            · by_cases h67_75 : q < 71
              · by_cases h67_71 : q < 69
                · by_cases h67_69 : q < 68
                  · have e : q = 67 := by omega
                    subst e
                    exact am_va67
                  · have e : q = 68 := by omega
                    subst e
                    exact am_va68
                · by_cases h69_71 : q < 70
                  · have e : q = 69 := by omega
                    subst e
                    exact am_va69
                  · have e : q = 70 := by omega
                    subst e
                    exact am_va70
              · by_cases h71_75 : q < 73
                · by_cases h71_73 : q < 72
                  · have e : q = 71 := by omega
                    subst e
                    exact am_va71
                  · have e : q = 72 := by omega
                    subst e
                    exact am_va72
                · by_cases h73_75 : q < 74
                  · have e : q = 73 := by omega
                    subst e
                    exact am_va73
                  · have e : q = 74 := by omega
                    subst e
                    exact am_va74
            · by_cases h75_84 : q < 79
              · by_cases h75_79 : q < 77
                · by_cases h75_77 : q < 76
                  · have e : q = 75 := by omega
                    subst e
                    exact am_va75
                  · have e : q = 76 := by omega
                    subst e
                    exact am_va76
                · by_cases h77_79 : q < 78
                  · have e : q = 77 := by omega
                    subst e
                    exact am_va77
                  · have e : q = 78 := by omega
                    subst e
                    exact am_va78
              · by_cases h79_84 : q < 81
                · by_cases h79_81 : q < 80
                  · have e : q = 79 := by omega
                    subst e
                    exact am_va79
                  · have e : q = 80 := by omega
                    subst e
                    exact am_va80
                · by_cases h81_84 : q < 82
                  · have e : q = 81 := by omega
                    subst e
                    exact am_va81
                  · by_cases h82_84 : q < 83
                    · have e : q = 82 := by omega
                      subst e
                      exact am_va82
                    · have e : q = 83 := by omega
                      subst e
                      exact am_va83
          · by_cases h84_101 : q < 92
            · by_cases h84_92 : q < 88
              · by_cases h84_88 : q < 86
                · by_cases h84_86 : q < 85
                  · have e : q = 84 := by omega
                    subst e
                    exact am_va84
                  · have e : q = 85 := by omega
                    subst e
                    exact am_va85
                · by_cases h86_88 : q < 87
                  · have e : q = 86 := by omega
                    subst e
                    exact am_va86
                  · have e : q = 87 := by omega
                    subst e
                    exact am_va87
              · by_cases h88_92 : q < 90
                · by_cases h88_90 : q < 89
                  · have e : q = 88 := by omega
                    subst e
                    exact am_va88
                  · have e : q = 89 := by omega
                    subst e
                    exact am_va89
                · by_cases h90_92 : q < 91
                  · have e : q = 90 := by omega
                    subst e
                    exact am_va90
                  · have e : q = 91 := by omega
                    subst e
                    exact am_va91
            · by_cases h92_101 : q < 96
              · by_cases h92_96 : q < 94
                · by_cases h92_94 : q < 93
                  · have e : q = 92 := by omega
                    subst e
                    exact am_va92
                  · have e : q = 93 := by omega
                    subst e
                    exact am_va93
                · by_cases h94_96 : q < 95
                  · have e : q = 94 := by omega
                    subst e
                    exact am_va94
                  · have e : q = 95 := by omega
                    subst e
                    exact am_va95
              · by_cases h96_101 : q < 98
                · by_cases h96_98 : q < 97
                  · have e : q = 96 := by omega
                    subst e
                    exact am_va96
                  · have e : q = 97 := by omega
                    subst e
                    exact am_va97
                · by_cases h98_101 : q < 99
                  · have e : q = 98 := by omega
                    subst e
                    exact am_va98
                  · by_cases h99_101 : q < 100
                    · have e : q = 99 := by omega
                      subst e
                      exact am_va99
                    · have e : q = 100 := by omega
                      subst e
                      exact am_va100
        · by_cases h101_135 : q < 118
          · by_cases h101_118 : q < 109
            · by_cases h101_109 : q < 105
              · by_cases h101_105 : q < 103
                · by_cases h101_103 : q < 102
                  · have e : q = 101 := by omega
                    subst e
                    exact am_va101
                  · have e : q = 102 := by omega
                    subst e
                    exact am_va102
                · by_cases h103_105 : q < 104
                  · have e : q = 103 := by omega
                    subst e
                    exact am_va103
                  · have e : q = 104 := by omega
                    subst e
                    exact am_va104
              · by_cases h105_109 : q < 107
                · by_cases h105_107 : q < 106
                  · have e : q = 105 := by omega
                    subst e
                    exact am_va105
                  · have e : q = 106 := by omega
                    subst e
                    exact am_va106
                · by_cases h107_109 : q < 108
                  · have e : q = 107 := by omega
                    subst e
                    exact am_va107
                  · have e : q = 108 := by omega
                    subst e
                    exact am_va108
            · by_cases h109_118 : q < 113
              · by_cases h109_113 : q < 111
                · by_cases h109_111 : q < 110
                  · have e : q = 109 := by omega
                    subst e
                    exact am_va109
                  · have e : q = 110 := by omega
                    subst e
                    exact am_va110
                · by_cases h111_113 : q < 112
                  · have e : q = 111 := by omega
                    subst e
                    exact am_va111
                  · have e : q = 112 := by omega
                    subst e
                    exact am_va112
              · by_cases h113_118 : q < 115
                · by_cases h113_115 : q < 114
                  · have e : q = 113 := by omega
                    subst e
                    exact am_va113
                  · have e : q = 114 := by omega
                    subst e
                    exact am_va114
                · by_cases h115_118 : q < 116
                  · have e : q = 115 := by omega
                    subst e
                    exact am_va115
                  · by_cases h116_118 : q < 117
                    · have e : q = 116 := by omega
                      subst e
                      exact am_va116
                    · have e : q = 117 := by omega
                      subst e
                      exact am_va117
          · by_cases h118_135 : q < 126
            · by_cases h118_126 : q < 122
              · by_cases h118_122 : q < 120
                · by_cases h118_120 : q < 119
                  · have e : q = 118 := by omega
                    subst e
                    exact am_va118
                  · have e : q = 119 := by omega
                    subst e
                    exact am_va119
                · by_cases h120_122 : q < 121
                  · have e : q = 120 := by omega
                    subst e
                    exact am_va120
                  · have e : q = 121 := by omega
                    subst e
                    exact am_va121
              · by_cases h122_126 : q < 124
                · by_cases h122_124 : q < 123
                  · have e : q = 122 := by omega
                    subst e
                    exact am_va122
                  · have e : q = 123 := by omega
                    subst e
                    exact am_va123
                · by_cases h124_126 : q < 125
                  · have e : q = 124 := by omega
                    subst e
                    exact am_va124
                  · have e : q = 125 := by omega
                    subst e
                    exact am_va125
            · by_cases h126_135 : q < 130
              · by_cases h126_130 : q < 128
                · by_cases h126_128 : q < 127
                  · have e : q = 126 := by omega
                    subst e
                    exact am_va126
                  · have e : q = 127 := by omega
                    subst e
                    exact am_va127
                · by_cases h128_130 : q < 129
                  · have e : q = 128 := by omega
                    subst e
                    exact am_va128
                  · have e : q = 129 := by omega
                    subst e
                    exact am_va129
              · by_cases h130_135 : q < 132
                · by_cases h130_132 : q < 131
                  · have e : q = 130 := by omega
                    subst e
                    exact am_va130
                  · have e : q = 131 := by omega
                    subst e
                    exact am_va131
                · by_cases h132_135 : q < 133
                  · have e : q = 132 := by omega
                    subst e
                    exact am_va132
                  · by_cases h133_135 : q < 134
                    · have e : q = 133 := by omega
                      subst e
                      exact am_va133
                    · have e : q = 134 := by omega
                      subst e
                      exact am_va134
    · by_cases h135_271 : q < 203
      · by_cases h135_203 : q < 169
        · by_cases h135_169 : q < 152
          · by_cases h135_152 : q < 143
            · by_cases h135_143 : q < 139
              · by_cases h135_139 : q < 137
                · by_cases h135_137 : q < 136
                  · have e : q = 135 := by omega
                    subst e
                    exact am_va135
                  · have e : q = 136 := by omega
                    subst e
                    exact am_va136
                · by_cases h137_139 : q < 138
                  · have e : q = 137 := by omega
                    subst e
                    exact am_va137
                  · have e : q = 138 := by omega
                    subst e
                    exact am_va138
              · by_cases h139_143 : q < 141
                · by_cases h139_141 : q < 140
                  · have e : q = 139 := by omega
                    subst e
                    exact am_va139
                  · have e : q = 140 := by omega
                    subst e
                    exact am_va140
                · by_cases h141_143 : q < 142
                  · have e : q = 141 := by omega
                    subst e
                    exact am_va141
                  · have e : q = 142 := by omega
                    subst e
                    exact am_va142
            · by_cases h143_152 : q < 147
              · by_cases h143_147 : q < 145
                · by_cases h143_145 : q < 144
                  · have e : q = 143 := by omega
                    subst e
                    exact am_va143
                  · have e : q = 144 := by omega
                    subst e
                    exact am_va144
                · by_cases h145_147 : q < 146
                  · have e : q = 145 := by omega
                    subst e
                    exact am_va145
                  · have e : q = 146 := by omega
                    subst e
                    exact am_va146
              · by_cases h147_152 : q < 149
                · by_cases h147_149 : q < 148
                  · have e : q = 147 := by omega
                    subst e
                    exact am_va147
                  · have e : q = 148 := by omega
                    subst e
                    exact am_va148
                · by_cases h149_152 : q < 150
                  · have e : q = 149 := by omega
                    subst e
                    exact am_va149
                  · by_cases h150_152 : q < 151
                    · have e : q = 150 := by omega
                      subst e
                      exact am_va150
                    · have e : q = 151 := by omega
                      subst e
                      exact am_va151
          · by_cases h152_169 : q < 160
            · by_cases h152_160 : q < 156
              · by_cases h152_156 : q < 154
                · by_cases h152_154 : q < 153
                  · have e : q = 152 := by omega
                    subst e
                    exact am_va152
                  · have e : q = 153 := by omega
                    subst e
                    exact am_va153
                · by_cases h154_156 : q < 155
                  · have e : q = 154 := by omega
                    subst e
                    exact am_va154
                  · have e : q = 155 := by omega
                    subst e
                    exact am_va155
              · by_cases h156_160 : q < 158
                · by_cases h156_158 : q < 157
                  · have e : q = 156 := by omega
                    subst e
                    exact am_va156
                  · have e : q = 157 := by omega
                    subst e
                    exact am_va157
                · by_cases h158_160 : q < 159
                  · have e : q = 158 := by omega
                    subst e
                    exact am_va158
                  · have e : q = 159 := by omega
                    subst e
                    exact am_va159
            · by_cases h160_169 : q < 164
              · by_cases h160_164 : q < 162
                · by_cases h160_162 : q < 161
                  · have e : q = 160 := by omega
                    subst e
                    exact am_va160
                  · have e : q = 161 := by omega
                    subst e
                    exact am_va161
                · by_cases h162_164 : q < 163
                  · have e : q = 162 := by omega
                    subst e
                    exact am_va162
                  · have e : q = 163 := by omega
                    subst e
                    exact am_va163
              · by_cases h164_169 : q < 166
                · by_cases h164_166 : q < 165
                  · have e : q = 164 := by omega
                    subst e
                    exact am_va164
                  · have e : q = 165 := by omega
                    subst e
                    exact am_va165
                · by_cases h166_169 : q < 167
                  · have e : q = 166 := by omega
                    subst e
                    exact am_va166
                  · by_cases h167_169 : q < 168
                    · have e : q = 167 := by omega
                      subst e
                      exact am_va167
                    · have e : q = 168 := by omega
                      subst e
                      exact am_va168
        · by_cases h169_203 : q < 186
          · by_cases h169_186 : q < 177
            · by_cases h169_177 : q < 173
              · by_cases h169_173 : q < 171
                · by_cases h169_171 : q < 170
                  · have e : q = 169 := by omega
                    subst e
                    exact am_va169
                  · have e : q = 170 := by omega
                    subst e
                    exact am_va170
                · by_cases h171_173 : q < 172
                  · have e : q = 171 := by omega
                    subst e
                    exact am_va171
                  · have e : q = 172 := by omega
                    subst e
                    exact am_va172
              · by_cases h173_177 : q < 175
                · by_cases h173_175 : q < 174
                  · have e : q = 173 := by omega
                    subst e
                    exact am_va173
                  · have e : q = 174 := by omega
                    subst e
                    exact am_va174
                · by_cases h175_177 : q < 176
                  · have e : q = 175 := by omega
                    subst e
                    exact am_va175
                  · have e : q = 176 := by omega
                    subst e
                    exact am_va176
            · by_cases h177_186 : q < 181
              · by_cases h177_181 : q < 179
                · by_cases h177_179 : q < 178
                  · have e : q = 177 := by omega
                    subst e
                    exact am_va177
                  · have e : q = 178 := by omega
                    subst e
                    exact am_va178
                · by_cases h179_181 : q < 180
                  · have e : q = 179 := by omega
                    subst e
                    exact am_va179
                  · have e : q = 180 := by omega
                    subst e
                    exact am_va180
              · by_cases h181_186 : q < 183
                · by_cases h181_183 : q < 182
                  · have e : q = 181 := by omega
                    subst e
                    exact am_va181
                  · have e : q = 182 := by omega
                    subst e
                    exact am_va182
                · by_cases h183_186 : q < 184
                  · have e : q = 183 := by omega
                    subst e
                    exact am_va183
                  · by_cases h184_186 : q < 185
                    · have e : q = 184 := by omega
                      subst e
                      exact am_va184
                    · have e : q = 185 := by omega
                      subst e
                      exact am_va185
          · by_cases h186_203 : q < 194
            · by_cases h186_194 : q < 190
              · by_cases h186_190 : q < 188
                · by_cases h186_188 : q < 187
                  · have e : q = 186 := by omega
                    subst e
                    exact am_va186
                  · have e : q = 187 := by omega
                    subst e
                    exact am_va187
                · by_cases h188_190 : q < 189
                  · have e : q = 188 := by omega
                    subst e
                    exact am_va188
                  · have e : q = 189 := by omega
                    subst e
                    exact am_va189
              · by_cases h190_194 : q < 192
                · by_cases h190_192 : q < 191
                  · have e : q = 190 := by omega
                    subst e
                    exact am_va190
                  · have e : q = 191 := by omega
                    subst e
                    exact am_va191
                · by_cases h192_194 : q < 193
                  · have e : q = 192 := by omega
                    subst e
                    exact am_va192
                  · have e : q = 193 := by omega
                    subst e
                    exact am_va193
            · by_cases h194_203 : q < 198
              · by_cases h194_198 : q < 196
                · by_cases h194_196 : q < 195
                  · have e : q = 194 := by omega
                    subst e
                    exact am_va194
                  · have e : q = 195 := by omega
                    subst e
                    exact am_va195
                · by_cases h196_198 : q < 197
                  · have e : q = 196 := by omega
                    subst e
                    exact am_va196
                  · have e : q = 197 := by omega
                    subst e
                    exact am_va197
              · by_cases h198_203 : q < 200
                · by_cases h198_200 : q < 199
                  · have e : q = 198 := by omega
                    subst e
                    exact am_va198
                  · have e : q = 199 := by omega
                    subst e
                    exact am_va199
                · by_cases h200_203 : q < 201
                  · have e : q = 200 := by omega
                    subst e
                    exact am_va200
                  · by_cases h201_203 : q < 202
                    · have e : q = 201 := by omega
                      subst e
                      exact am_va201
                    · have e : q = 202 := by omega
                      subst e
                      exact am_va202
      · by_cases h203_271 : q < 237
        · by_cases h203_237 : q < 220
          · by_cases h203_220 : q < 211
            · by_cases h203_211 : q < 207
              · by_cases h203_207 : q < 205
                · by_cases h203_205 : q < 204
                  · have e : q = 203 := by omega
                    subst e
                    exact am_va203
                  · have e : q = 204 := by omega
                    subst e
                    exact am_va204
                · by_cases h205_207 : q < 206
                  · have e : q = 205 := by omega
                    subst e
                    exact am_va205
                  · have e : q = 206 := by omega
                    subst e
                    exact am_va206
              · by_cases h207_211 : q < 209
                · by_cases h207_209 : q < 208
                  · have e : q = 207 := by omega
                    subst e
                    exact am_va207
                  · have e : q = 208 := by omega
                    subst e
                    exact am_va208
                · by_cases h209_211 : q < 210
                  · have e : q = 209 := by omega
                    subst e
                    exact am_va209
                  · have e : q = 210 := by omega
                    subst e
                    exact am_va210
            · by_cases h211_220 : q < 215
              · by_cases h211_215 : q < 213
                · by_cases h211_213 : q < 212
                  · have e : q = 211 := by omega
                    subst e
                    exact am_va211
                  · have e : q = 212 := by omega
                    subst e
                    exact am_va212
                · by_cases h213_215 : q < 214
                  · have e : q = 213 := by omega
                    subst e
                    exact am_va213
                  · have e : q = 214 := by omega
                    subst e
                    exact am_va214
              · by_cases h215_220 : q < 217
                · by_cases h215_217 : q < 216
                  · have e : q = 215 := by omega
                    subst e
                    exact am_va215
                  · have e : q = 216 := by omega
                    subst e
                    exact am_va216
                · by_cases h217_220 : q < 218
                  · have e : q = 217 := by omega
                    subst e
                    exact am_va217
                  · by_cases h218_220 : q < 219
                    · have e : q = 218 := by omega
                      subst e
                      exact am_va218
                    · have e : q = 219 := by omega
                      subst e
                      exact am_va219
          · by_cases h220_237 : q < 228
            · by_cases h220_228 : q < 224
              · by_cases h220_224 : q < 222
                · by_cases h220_222 : q < 221
                  · have e : q = 220 := by omega
                    subst e
                    exact am_va220
                  · have e : q = 221 := by omega
                    subst e
                    exact am_va221
                · by_cases h222_224 : q < 223
                  · have e : q = 222 := by omega
                    subst e
                    exact am_va222
                  · have e : q = 223 := by omega
                    subst e
                    exact am_va223
              · by_cases h224_228 : q < 226
                · by_cases h224_226 : q < 225
                  · have e : q = 224 := by omega
                    subst e
                    exact am_va224
                  · have e : q = 225 := by omega
                    subst e
                    exact am_va225
                · by_cases h226_228 : q < 227
                  · have e : q = 226 := by omega
                    subst e
                    exact am_va226
                  · have e : q = 227 := by omega
                    subst e
                    exact am_va227
            · by_cases h228_237 : q < 232
              · by_cases h228_232 : q < 230
                · by_cases h228_230 : q < 229
                  · have e : q = 228 := by omega
                    subst e
                    exact am_va228
                  · have e : q = 229 := by omega
                    subst e
                    exact am_va229
                · by_cases h230_232 : q < 231
                  · have e : q = 230 := by omega
                    subst e
                    exact am_va230
                  · have e : q = 231 := by omega
                    subst e
                    exact am_va231
              · by_cases h232_237 : q < 234
                · by_cases h232_234 : q < 233
                  · have e : q = 232 := by omega
                    subst e
                    exact am_va232
                  · have e : q = 233 := by omega
                    subst e
                    exact am_va233
                · by_cases h234_237 : q < 235
                  · have e : q = 234 := by omega
                    subst e
                    exact am_va234
                  · by_cases h235_237 : q < 236
                    · have e : q = 235 := by omega
                      subst e
                      exact am_va235
                    · have e : q = 236 := by omega
                      subst e
                      exact am_va236
        · by_cases h237_271 : q < 254
          · by_cases h237_254 : q < 245
            · by_cases h237_245 : q < 241
              · by_cases h237_241 : q < 239
                · by_cases h237_239 : q < 238
                  · have e : q = 237 := by omega
                    subst e
                    exact am_va237
                  · have e : q = 238 := by omega
                    subst e
                    exact am_va238
                · by_cases h239_241 : q < 240
                  · have e : q = 239 := by omega
                    subst e
                    exact am_va239
                  · have e : q = 240 := by omega
                    subst e
                    exact am_va240
              · by_cases h241_245 : q < 243
                · by_cases h241_243 : q < 242
                  · have e : q = 241 := by omega
                    subst e
                    exact am_va241
                  · have e : q = 242 := by omega
                    subst e
                    exact am_va242
                · by_cases h243_245 : q < 244
                  · have e : q = 243 := by omega
                    subst e
                    exact am_va243
                  · have e : q = 244 := by omega
                    subst e
                    exact am_va244
            · by_cases h245_254 : q < 249
              · by_cases h245_249 : q < 247
                · by_cases h245_247 : q < 246
                  · have e : q = 245 := by omega
                    subst e
                    exact am_va245
                  · have e : q = 246 := by omega
                    subst e
                    exact am_va246
                · by_cases h247_249 : q < 248
                  · have e : q = 247 := by omega
                    subst e
                    exact am_va247
                  · have e : q = 248 := by omega
                    subst e
                    exact am_va248
              · by_cases h249_254 : q < 251
                · by_cases h249_251 : q < 250
                  · have e : q = 249 := by omega
                    subst e
                    exact am_va249
                  · have e : q = 250 := by omega
                    subst e
                    exact am_va250
                · by_cases h251_254 : q < 252
                  · have e : q = 251 := by omega
                    subst e
                    exact am_va251
                  · by_cases h252_254 : q < 253
                    · have e : q = 252 := by omega
                      subst e
                      exact am_va252
                    · have e : q = 253 := by omega
                      subst e
                      exact am_va253
          · by_cases h254_271 : q < 262
            · by_cases h254_262 : q < 258
              · by_cases h254_258 : q < 256
                · by_cases h254_256 : q < 255
                  · have e : q = 254 := by omega
                    subst e
                    exact am_va254
                  · have e : q = 255 := by omega
                    subst e
                    exact am_va255
                · by_cases h256_258 : q < 257
                  · have e : q = 256 := by omega
                    subst e
                    exact am_va256
                  · have e : q = 257 := by omega
                    subst e
                    exact am_va257
              · by_cases h258_262 : q < 260
                · by_cases h258_260 : q < 259
                  · have e : q = 258 := by omega
                    subst e
                    exact am_va258
                  · have e : q = 259 := by omega
                    subst e
                    exact am_va259
                · by_cases h260_262 : q < 261
                  · have e : q = 260 := by omega
                    subst e
                    exact am_va260
                  · have e : q = 261 := by omega
                    subst e
                    exact am_va261
            · by_cases h262_271 : q < 266
              · by_cases h262_266 : q < 264
                · by_cases h262_264 : q < 263
                  · have e : q = 262 := by omega
                    subst e
                    exact am_va262
                  · have e : q = 263 := by omega
                    subst e
                    exact am_va263
                · by_cases h264_266 : q < 265
                  · have e : q = 264 := by omega
                    subst e
                    exact am_va264
                  · have e : q = 265 := by omega
                    subst e
                    exact am_va265
              · by_cases h266_271 : q < 268
                · by_cases h266_268 : q < 267
                  · have e : q = 266 := by omega
                    subst e
                    exact am_va266
                  · have e : q = 267 := by omega
                    subst e
                    exact am_va267
                · by_cases h268_271 : q < 269
                  · have e : q = 268 := by omega
                    subst e
                    exact am_va268
                  · by_cases h269_271 : q < 270
                    · have e : q = 269 := by omega
                      subst e
                      exact am_va269
                    · have e : q = 270 := by omega
                      subst e
                      exact am_va270
  · have e : q = 271 := by omega
    subst e
    exact am_vb_law
theorem am_o2_all {q : Nat} (h0 : 0 < q ∧ q < am_NM) : am_ok2 q := by
  have h0 : 0 < q ∧ q < 271 := h0
  · by_cases h1_271 : q < 136
    · by_cases h1_136 : q < 68
      · by_cases h1_68 : q < 34
        · by_cases h1_34 : q < 17
          · by_cases h1_17 : q < 9
            · by_cases h1_9 : q < 5
              · by_cases h1_5 : q < 3
                · by_cases h1_3 : q < 2
                  · have e : q = 1 := by omega
                    subst e
                    exact am_o2_ok am_vo1
                  · have e : q = 2 := by omega
                    subst e
                    exact am_o2_ok am_vo2
                · by_cases h3_5 : q < 4
                  · have e : q = 3 := by omega
                    subst e
                    exact am_o2_ok am_vo3
                  · have e : q = 4 := by omega
                    subst e
                    exact am_o2_ok am_vo4
              · by_cases h5_9 : q < 7
                · by_cases h5_7 : q < 6
                  · have e : q = 5 := by omega
                    subst e
                    exact am_o2_ok am_vo5
                  · have e : q = 6 := by omega
                    subst e
                    exact am_o2_ok am_vo6
                · by_cases h7_9 : q < 8
                  · have e : q = 7 := by omega
                    subst e
                    exact am_o2_ok am_vo7
                  · have e : q = 8 := by omega
                    subst e
                    exact am_o2_ok am_vo8
            · by_cases h9_17 : q < 13
              · by_cases h9_13 : q < 11
                · by_cases h9_11 : q < 10
                  · have e : q = 9 := by omega
                    subst e
                    exact am_o2_ok am_vo9
                  · have e : q = 10 := by omega
                    subst e
                    exact am_o2_ok am_vo10
                · by_cases h11_13 : q < 12
                  · have e : q = 11 := by omega
                    subst e
                    exact am_o2_ok am_vo11
                  · have e : q = 12 := by omega
                    subst e
                    exact am_o2_ok am_vo12
              · by_cases h13_17 : q < 15
                · by_cases h13_15 : q < 14
                  · have e : q = 13 := by omega
                    subst e
                    exact am_o2_ok am_vo13
                  · have e : q = 14 := by omega
                    subst e
                    exact am_o2_ok am_vo14
                · by_cases h15_17 : q < 16
                  · have e : q = 15 := by omega
                    subst e
                    exact am_o2_ok am_vo15
                  · have e : q = 16 := by omega
                    subst e
                    exact am_o2_ok am_vo16
          · by_cases h17_34 : q < 25
            · by_cases h17_25 : q < 21
              · by_cases h17_21 : q < 19
                · by_cases h17_19 : q < 18
                  · have e : q = 17 := by omega
                    subst e
                    exact am_o2_ok am_vo17
                  · have e : q = 18 := by omega
                    subst e
                    exact am_o2_ok am_vo18
                · by_cases h19_21 : q < 20
                  · have e : q = 19 := by omega
                    subst e
                    exact am_o2_ok am_vo19
                  · have e : q = 20 := by omega
                    subst e
                    exact am_o2_ok am_vo20
              · by_cases h21_25 : q < 23
                · by_cases h21_23 : q < 22
                  · have e : q = 21 := by omega
                    subst e
                    exact am_o2_ok am_vo21
                  · have e : q = 22 := by omega
                    subst e
                    exact am_o2_ok am_vo22
                · by_cases h23_25 : q < 24
                  · have e : q = 23 := by omega
                    subst e
                    exact am_o2_ok am_vo23
                  · have e : q = 24 := by omega
                    subst e
                    exact am_o2_ok am_vo24
            · by_cases h25_34 : q < 29
              · by_cases h25_29 : q < 27
                · by_cases h25_27 : q < 26
                  · have e : q = 25 := by omega
                    subst e
                    exact am_o2_ok am_vo25
                  · have e : q = 26 := by omega
                    subst e
                    exact am_o2_ok am_vo26
                · by_cases h27_29 : q < 28
                  · have e : q = 27 := by omega
                    subst e
                    exact am_o2_ok am_vo27
                  · have e : q = 28 := by omega
                    subst e
                    exact am_o2_ok am_vo28
              · by_cases h29_34 : q < 31
                · by_cases h29_31 : q < 30
                  · have e : q = 29 := by omega
                    subst e
                    exact am_o2_ok am_vo29
                  · have e : q = 30 := by omega
                    subst e
                    exact am_o2_ok am_vo30
                · by_cases h31_34 : q < 32
                  · have e : q = 31 := by omega
                    subst e
                    exact am_o2_ok am_vo31
                  · by_cases h32_34 : q < 33
                    · have e : q = 32 := by omega
                      subst e
                      exact am_o2_ok am_vo32
                    · have e : q = 33 := by omega
                      subst e
                      exact am_o2_ok am_vo33
        · by_cases h34_68 : q < 51
          · by_cases h34_51 : q < 42
            · by_cases h34_42 : q < 38
              · by_cases h34_38 : q < 36
                · by_cases h34_36 : q < 35
                  · have e : q = 34 := by omega
                    subst e
                    exact am_o2_ok am_vo34
                  · have e : q = 35 := by omega
                    subst e
                    exact am_o2_ok am_vo35
                · by_cases h36_38 : q < 37
                  · have e : q = 36 := by omega
                    subst e
                    exact am_o2_ok am_vo36
                  · have e : q = 37 := by omega
                    subst e
                    exact am_o2_ok am_vo37
              · by_cases h38_42 : q < 40
                · by_cases h38_40 : q < 39
                  · have e : q = 38 := by omega
                    subst e
                    exact am_o2_ok am_vo38
                  · have e : q = 39 := by omega
                    subst e
                    exact am_o2_ok am_vo39
                · by_cases h40_42 : q < 41
                  · have e : q = 40 := by omega
                    subst e
                    exact am_o2_ok am_vo40
                  · have e : q = 41 := by omega
                    subst e
                    exact am_o2_ok am_vo41
            · by_cases h42_51 : q < 46
              · by_cases h42_46 : q < 44
                · by_cases h42_44 : q < 43
                  · have e : q = 42 := by omega
                    subst e
                    exact am_o2_ok am_vo42
                  · have e : q = 43 := by omega
                    subst e
                    exact am_o2_ok am_vo43
                · by_cases h44_46 : q < 45
                  · have e : q = 44 := by omega
                    subst e
                    exact am_o2_ok am_vo44
                  · have e : q = 45 := by omega
                    subst e
                    exact am_o2_ok am_vo45
              · by_cases h46_51 : q < 48
                · by_cases h46_48 : q < 47
                  · have e : q = 46 := by omega
                    subst e
                    exact am_o2_ok am_vo46
                  · have e : q = 47 := by omega
                    subst e
                    exact am_o2_ok am_vo47
                · by_cases h48_51 : q < 49
                  · have e : q = 48 := by omega
                    subst e
                    exact am_o2_ok am_vo48
                  · by_cases h49_51 : q < 50
                    · have e : q = 49 := by omega
                      subst e
                      exact am_o2_ok am_vo49
                    · have e : q = 50 := by omega
                      subst e
                      exact am_o2_ok am_vo50
          · by_cases h51_68 : q < 59
            · by_cases h51_59 : q < 55
              · by_cases h51_55 : q < 53
                · by_cases h51_53 : q < 52
                  · have e : q = 51 := by omega
                    subst e
                    exact am_o2_ok am_vo51
                  · have e : q = 52 := by omega
                    subst e
                    exact am_o2_ok am_vo52
                · by_cases h53_55 : q < 54
                  · have e : q = 53 := by omega
                    subst e
                    exact am_o2_ok am_vo53
                  · have e : q = 54 := by omega
                    subst e
                    exact am_o2_ok am_vo54
              · by_cases h55_59 : q < 57
                · by_cases h55_57 : q < 56
                  · have e : q = 55 := by omega
                    subst e
                    exact am_o2_ok am_vo55
                  · have e : q = 56 := by omega
                    subst e
                    exact am_o2_ok am_vo56
                · by_cases h57_59 : q < 58
                  · have e : q = 57 := by omega
                    subst e
                    exact am_o2_ok am_vo57
                  · have e : q = 58 := by omega
                    subst e
                    exact am_o2_ok am_vo58
            · by_cases h59_68 : q < 63
              · by_cases h59_63 : q < 61
                · by_cases h59_61 : q < 60
                  · have e : q = 59 := by omega
                    subst e
                    exact am_o2_ok am_vo59
                  · have e : q = 60 := by omega
                    subst e
                    exact am_o2_ok am_vo60
                · by_cases h61_63 : q < 62
                  · have e : q = 61 := by omega
                    subst e
                    exact am_o2_ok am_vo61
                  · have e : q = 62 := by omega
                    subst e
                    exact am_o2_ok am_vo62
              · by_cases h63_68 : q < 65
                · by_cases h63_65 : q < 64
                  · have e : q = 63 := by omega
                    subst e
                    exact am_o2_ok am_vo63
                  · have e : q = 64 := by omega
                    subst e
                    exact am_o2_ok am_vo64
                · by_cases h65_68 : q < 66
                  · have e : q = 65 := by omega
                    subst e
                    exact am_o2_ok am_vo65
                  · by_cases h66_68 : q < 67
                    · have e : q = 66 := by omega
                      subst e
                      exact am_o2_ok am_vo66
                    · have e : q = 67 := by omega
                      subst e
                      exact am_o2_ok am_vo67
      · by_cases h68_136 : q < 102
        · by_cases h68_102 : q < 85
          · by_cases h68_85 : q < 76
            · by_cases h68_76 : q < 72
              · by_cases h68_72 : q < 70
                · by_cases h68_70 : q < 69
                  · have e : q = 68 := by omega
                    subst e
                    exact am_o2_ok am_vo68
                  · have e : q = 69 := by omega
                    subst e
                    exact am_o2_ok am_vo69
                · by_cases h70_72 : q < 71
                  · have e : q = 70 := by omega
                    subst e
                    exact am_o2_ok am_vo70
                  · have e : q = 71 := by omega
                    subst e
                    exact am_o2_ok am_vo71
              · by_cases h72_76 : q < 74
                · by_cases h72_74 : q < 73
                  · have e : q = 72 := by omega
                    subst e
                    exact am_o2_ok am_vo72
                  · have e : q = 73 := by omega
                    subst e
                    exact am_o2_ok am_vo73
                · by_cases h74_76 : q < 75
                  · have e : q = 74 := by omega
                    subst e
                    exact am_o2_ok am_vo74
                  · have e : q = 75 := by omega
                    subst e
                    exact am_o2_ok am_vo75
            · by_cases h76_85 : q < 80
              · by_cases h76_80 : q < 78
                · by_cases h76_78 : q < 77
                  · have e : q = 76 := by omega
                    subst e
                    exact am_o2_ok am_vo76
                  · have e : q = 77 := by omega
                    subst e
                    exact am_o2_ok am_vo77
                · by_cases h78_80 : q < 79
                  · have e : q = 78 := by omega
                    subst e
                    exact am_o2_ok am_vo78
                  · have e : q = 79 := by omega
                    subst e
                    exact am_o2_ok am_vo79
              · by_cases h80_85 : q < 82
                · by_cases h80_82 : q < 81
                  · have e : q = 80 := by omega
                    subst e
                    exact am_o2_ok am_vo80
                  · have e : q = 81 := by omega
                    subst e
                    exact am_o2_ok am_vo81
                · by_cases h82_85 : q < 83
                  · have e : q = 82 := by omega
                    subst e
                    exact am_o2_ok am_vo82
                  · by_cases h83_85 : q < 84
                    · have e : q = 83 := by omega
                      subst e
                      exact am_o2_ok am_vo83
                    · have e : q = 84 := by omega
                      subst e
                      exact am_o2_ok am_vo84
          · by_cases h85_102 : q < 93
            · by_cases h85_93 : q < 89
              · by_cases h85_89 : q < 87
                · by_cases h85_87 : q < 86
                  · have e : q = 85 := by omega
                    subst e
                    exact am_o2_ok am_vo85
                  · have e : q = 86 := by omega
                    subst e
                    exact am_o2_ok am_vo86
                · by_cases h87_89 : q < 88
                  · have e : q = 87 := by omega
                    subst e
                    exact am_o2_ok am_vo87
                  · have e : q = 88 := by omega
                    subst e
                    exact am_o2_ok am_vo88
              · by_cases h89_93 : q < 91
                · by_cases h89_91 : q < 90
                  · have e : q = 89 := by omega
                    subst e
                    exact am_o2_ok am_vo89
                  · have e : q = 90 := by omega
                    subst e
                    exact am_o2_ok am_vo90
                · by_cases h91_93 : q < 92
                  · have e : q = 91 := by omega
                    subst e
                    exact am_o2_ok am_vo91
                  · have e : q = 92 := by omega
                    subst e
                    exact am_o2_ok am_vo92
            · by_cases h93_102 : q < 97
              · by_cases h93_97 : q < 95
                · by_cases h93_95 : q < 94
                  · have e : q = 93 := by omega
                    subst e
                    exact am_o2_ok am_vo93
                  · have e : q = 94 := by omega
                    subst e
                    exact am_o2_ok am_vo94
                · by_cases h95_97 : q < 96
                  · have e : q = 95 := by omega
                    subst e
                    exact am_o2_ok am_vo95
                  · have e : q = 96 := by omega
                    subst e
                    exact am_o2_ok am_vo96
              · by_cases h97_102 : q < 99
                · by_cases h97_99 : q < 98
                  · have e : q = 97 := by omega
                    subst e
                    exact am_o2_ok am_vo97
                  · have e : q = 98 := by omega
                    subst e
                    exact am_o2_ok am_vo98
                · by_cases h99_102 : q < 100
                  · have e : q = 99 := by omega
                    subst e
                    exact am_o2_ok am_vo99
                  · by_cases h100_102 : q < 101
                    · have e : q = 100 := by omega
                      subst e
                      exact am_o2_ok am_vo100
                    · have e : q = 101 := by omega
                      subst e
                      exact am_o2_ok am_vo101
        · by_cases h102_136 : q < 119
          · by_cases h102_119 : q < 110
            · by_cases h102_110 : q < 106
              · by_cases h102_106 : q < 104
                · by_cases h102_104 : q < 103
                  · have e : q = 102 := by omega
                    subst e
                    exact am_o2_ok am_vo102
                  · have e : q = 103 := by omega
                    subst e
                    exact am_o2_ok am_vo103
                · by_cases h104_106 : q < 105
                  · have e : q = 104 := by omega
                    subst e
                    exact am_o2_ok am_vo104
                  · have e : q = 105 := by omega
                    subst e
                    exact am_o2_ok am_vo105
              · by_cases h106_110 : q < 108
                · by_cases h106_108 : q < 107
                  · have e : q = 106 := by omega
                    subst e
                    exact am_o2_ok am_vo106
                  · have e : q = 107 := by omega
                    subst e
                    exact am_o2_ok am_vo107
                · by_cases h108_110 : q < 109
                  · have e : q = 108 := by omega
                    subst e
                    exact am_o2_ok am_vo108
                  · have e : q = 109 := by omega
                    subst e
                    exact am_o2_ok am_vo109
            · by_cases h110_119 : q < 114
              · by_cases h110_114 : q < 112
                · by_cases h110_112 : q < 111
                  · have e : q = 110 := by omega
                    subst e
                    exact am_o2_ok am_vo110
                  · have e : q = 111 := by omega
                    subst e
                    exact am_o2_ok am_vo111
                · by_cases h112_114 : q < 113
                  · have e : q = 112 := by omega
                    subst e
                    exact am_o2_ok am_vo112
                  · have e : q = 113 := by omega
                    subst e
                    exact am_o2_ok am_vo113
              · by_cases h114_119 : q < 116
                · by_cases h114_116 : q < 115
                  · have e : q = 114 := by omega
                    subst e
                    exact am_o2_ok am_vo114
                  · have e : q = 115 := by omega
                    subst e
                    exact am_o2_ok am_vo115
                · by_cases h116_119 : q < 117
                  · have e : q = 116 := by omega
                    subst e
                    exact am_o2_ok am_vo116
                  · by_cases h117_119 : q < 118
                    · have e : q = 117 := by omega
                      subst e
                      exact am_o2_ok am_vo117
                    · have e : q = 118 := by omega
                      subst e
                      exact am_o2_ok am_vo118
          · by_cases h119_136 : q < 127
            · by_cases h119_127 : q < 123
              · by_cases h119_123 : q < 121
                · by_cases h119_121 : q < 120
                  · have e : q = 119 := by omega
                    subst e
                    exact am_o2_ok am_vo119
                  · have e : q = 120 := by omega
                    subst e
                    exact am_o2_ok am_vo120
                · by_cases h121_123 : q < 122
                  · have e : q = 121 := by omega
                    subst e
                    exact am_o2_ok am_vo121
                  · have e : q = 122 := by omega
                    subst e
                    exact am_o2_ok am_vo122
              · by_cases h123_127 : q < 125
                · by_cases h123_125 : q < 124
                  · have e : q = 123 := by omega
                    subst e
                    exact am_o2_ok am_vo123
                  · have e : q = 124 := by omega
                    subst e
                    exact am_o2_ok am_vo124
                · by_cases h125_127 : q < 126
                  · have e : q = 125 := by omega
                    subst e
                    exact am_o2_ok am_vo125
                  · have e : q = 126 := by omega
                    subst e
                    exact am_o2_ok am_vo126
            · by_cases h127_136 : q < 131
              · by_cases h127_131 : q < 129
                · by_cases h127_129 : q < 128
                  · have e : q = 127 := by omega
                    subst e
                    exact am_o2_ok am_vo127
                  · have e : q = 128 := by omega
                    subst e
                    exact am_o2_ok am_vo128
                · by_cases h129_131 : q < 130
                  · have e : q = 129 := by omega
                    subst e
                    exact am_o2_ok am_vo129
                  · have e : q = 130 := by omega
                    subst e
                    exact am_o2_ok am_vo130
              · by_cases h131_136 : q < 133
                · by_cases h131_133 : q < 132
                  · have e : q = 131 := by omega
                    subst e
                    exact am_o2_ok am_vo131
                  · have e : q = 132 := by omega
                    subst e
                    exact am_o2_ok am_vo132
                · by_cases h133_136 : q < 134
                  · have e : q = 133 := by omega
                    subst e
                    exact am_o2_ok am_vo133
                  · by_cases h134_136 : q < 135
                    · have e : q = 134 := by omega
                      subst e
                      exact am_o2_ok am_vo134
                    · have e : q = 135 := by omega
                      subst e
                      exact am_o2_ok am_vo135
    · by_cases h136_271 : q < 203
      · by_cases h136_203 : q < 169
        · by_cases h136_169 : q < 152
          · by_cases h136_152 : q < 144
            · by_cases h136_144 : q < 140
              · by_cases h136_140 : q < 138
                · by_cases h136_138 : q < 137
                  · have e : q = 136 := by omega
                    subst e
                    exact am_o2_ok am_vo136
                  · have e : q = 137 := by omega
                    subst e
                    exact am_o2_ok am_vo137
                · by_cases h138_140 : q < 139
                  · have e : q = 138 := by omega
                    subst e
                    exact am_o2_ok am_vo138
                  · have e : q = 139 := by omega
                    subst e
                    exact am_o2_ok am_vo139
              · by_cases h140_144 : q < 142
                · by_cases h140_142 : q < 141
                  · have e : q = 140 := by omega
                    subst e
                    exact am_o2_ok am_vo140
                  · have e : q = 141 := by omega
                    subst e
                    exact am_o2_ok am_vo141
                · by_cases h142_144 : q < 143
                  · have e : q = 142 := by omega
                    subst e
                    exact am_o2_ok am_vo142
                  · have e : q = 143 := by omega
                    subst e
                    exact am_o2_ok am_vo143
            · by_cases h144_152 : q < 148
              · by_cases h144_148 : q < 146
                · by_cases h144_146 : q < 145
                  · have e : q = 144 := by omega
                    subst e
                    exact am_o2_ok am_vo144
                  · have e : q = 145 := by omega
                    subst e
                    exact am_o2_ok am_vo145
                · by_cases h146_148 : q < 147
                  · have e : q = 146 := by omega
                    subst e
                    exact am_o2_ok am_vo146
                  · have e : q = 147 := by omega
                    subst e
                    exact am_o2_ok am_vo147
              · by_cases h148_152 : q < 150
                · by_cases h148_150 : q < 149
                  · have e : q = 148 := by omega
                    subst e
                    exact am_o2_ok am_vo148
                  · have e : q = 149 := by omega
                    subst e
                    exact am_o2_ok am_vo149
                · by_cases h150_152 : q < 151
                  · have e : q = 150 := by omega
                    subst e
                    exact am_o2_ok am_vo150
                  · have e : q = 151 := by omega
                    subst e
                    exact am_o2_ok am_vo151
          · by_cases h152_169 : q < 160
            · by_cases h152_160 : q < 156
              · by_cases h152_156 : q < 154
                · by_cases h152_154 : q < 153
                  · have e : q = 152 := by omega
                    subst e
                    exact am_o2_ok am_vo152
                  · have e : q = 153 := by omega
                    subst e
                    exact am_o2_ok am_vo153
                · by_cases h154_156 : q < 155
                  · have e : q = 154 := by omega
                    subst e
                    exact am_o2_ok am_vo154
                  · have e : q = 155 := by omega
                    subst e
                    exact am_o2_ok am_vo155
              · by_cases h156_160 : q < 158
                · by_cases h156_158 : q < 157
                  · have e : q = 156 := by omega
                    subst e
                    exact am_o2_ok am_vo156
                  · have e : q = 157 := by omega
                    subst e
                    exact am_o2_ok am_vo157
                · by_cases h158_160 : q < 159
                  · have e : q = 158 := by omega
                    subst e
                    exact am_o2_ok am_vo158
                  · have e : q = 159 := by omega
                    subst e
                    exact am_o2_ok am_vo159
            · by_cases h160_169 : q < 164
              · by_cases h160_164 : q < 162
                · by_cases h160_162 : q < 161
                  · have e : q = 160 := by omega
                    subst e
                    exact am_o2_ok am_vo160
                  · have e : q = 161 := by omega
                    subst e
                    exact am_o2_ok am_vo161
                · by_cases h162_164 : q < 163
                  · have e : q = 162 := by omega
                    subst e
                    exact am_o2_ok am_vo162
                  · have e : q = 163 := by omega
                    subst e
                    exact am_o2_ok am_vo163
              · by_cases h164_169 : q < 166
                · by_cases h164_166 : q < 165
                  · have e : q = 164 := by omega
                    subst e
                    exact am_o2_ok am_vo164
                  · have e : q = 165 := by omega
                    subst e
                    exact am_o2_ok am_vo165
                · by_cases h166_169 : q < 167
                  · have e : q = 166 := by omega
                    subst e
                    exact am_o2_ok am_vo166
                  · by_cases h167_169 : q < 168
                    · have e : q = 167 := by omega
                      subst e
                      exact am_o2_ok am_vo167
                    · have e : q = 168 := by omega
                      subst e
                      exact am_o2_ok am_vo168
        · by_cases h169_203 : q < 186
          · by_cases h169_186 : q < 177
            · by_cases h169_177 : q < 173
              · by_cases h169_173 : q < 171
                · by_cases h169_171 : q < 170
                  · have e : q = 169 := by omega
                    subst e
                    exact am_o2_ok am_vo169
                  · have e : q = 170 := by omega
                    subst e
                    exact am_o2_ok am_vo170
                · by_cases h171_173 : q < 172
                  · have e : q = 171 := by omega
                    subst e
                    exact am_o2_ok am_vo171
                  · have e : q = 172 := by omega
                    subst e
                    exact am_o2_ok am_vo172
              · by_cases h173_177 : q < 175
                · by_cases h173_175 : q < 174
                  · have e : q = 173 := by omega
                    subst e
                    exact am_o2_ok am_vo173
                  · have e : q = 174 := by omega
                    subst e
                    exact am_o2_ok am_vo174
                · by_cases h175_177 : q < 176
                  · have e : q = 175 := by omega
                    subst e
                    exact am_o2_ok am_vo175
                  · have e : q = 176 := by omega
                    subst e
                    exact am_o2_ok am_vo176
            · by_cases h177_186 : q < 181
              · by_cases h177_181 : q < 179
                · by_cases h177_179 : q < 178
                  · have e : q = 177 := by omega
                    subst e
                    exact am_o2_ok am_vo177
                  · have e : q = 178 := by omega
                    subst e
                    exact am_o2_ok am_vo178
                · by_cases h179_181 : q < 180
                  · have e : q = 179 := by omega
                    subst e
                    exact am_o2_ok am_vo179
                  · have e : q = 180 := by omega
                    subst e
                    exact am_o2_ok am_vo180
              · by_cases h181_186 : q < 183
                · by_cases h181_183 : q < 182
                  · have e : q = 181 := by omega
                    subst e
                    exact am_o2_ok am_vo181
                  · have e : q = 182 := by omega
                    subst e
                    exact am_o2_ok am_vo182
                · by_cases h183_186 : q < 184
                  · have e : q = 183 := by omega
                    subst e
                    exact am_o2_ok am_vo183
                  · by_cases h184_186 : q < 185
                    · have e : q = 184 := by omega
                      subst e
                      exact am_o2_ok am_vo184
                    · have e : q = 185 := by omega
                      subst e
                      exact am_o2_ok am_vo185
          · by_cases h186_203 : q < 194
            · by_cases h186_194 : q < 190
              · by_cases h186_190 : q < 188
                · by_cases h186_188 : q < 187
                  · have e : q = 186 := by omega
                    subst e
                    exact am_o2_ok am_vo186
                  · have e : q = 187 := by omega
                    subst e
                    exact am_o2_ok am_vo187
                · by_cases h188_190 : q < 189
                  · have e : q = 188 := by omega
                    subst e
                    exact am_o2_ok am_vo188
                  · have e : q = 189 := by omega
                    subst e
                    exact am_o2_ok am_vo189
              · by_cases h190_194 : q < 192
                · by_cases h190_192 : q < 191
                  · have e : q = 190 := by omega
                    subst e
                    exact am_o2_ok am_vo190
                  · have e : q = 191 := by omega
                    subst e
                    exact am_o2_ok am_vo191
                · by_cases h192_194 : q < 193
                  · have e : q = 192 := by omega
                    subst e
                    exact am_o2_ok am_vo192
                  · have e : q = 193 := by omega
                    subst e
                    exact am_o2_ok am_vo193
            · by_cases h194_203 : q < 198
              · by_cases h194_198 : q < 196
                · by_cases h194_196 : q < 195
                  · have e : q = 194 := by omega
                    subst e
                    exact am_o2_ok am_vo194
                  · have e : q = 195 := by omega
                    subst e
                    exact am_o2_ok am_vo195
                · by_cases h196_198 : q < 197
                  · have e : q = 196 := by omega
                    subst e
                    exact am_o2_ok am_vo196
                  · have e : q = 197 := by omega
                    subst e
                    exact am_o2_ok am_vo197
              · by_cases h198_203 : q < 200
                · by_cases h198_200 : q < 199
                  · have e : q = 198 := by omega
                    subst e
                    exact am_o2_ok am_vo198
                  · have e : q = 199 := by omega
                    subst e
                    exact am_o2_ok am_vo199
                · by_cases h200_203 : q < 201
                  · have e : q = 200 := by omega
                    subst e
                    exact am_o2_ok am_vo200
                  · by_cases h201_203 : q < 202
                    · have e : q = 201 := by omega
                      subst e
                      exact am_o2_ok am_vo201
                    · have e : q = 202 := by omega
                      subst e
                      exact am_o2_ok am_vo202
      · by_cases h203_271 : q < 237
        · by_cases h203_237 : q < 220
          · by_cases h203_220 : q < 211
            · by_cases h203_211 : q < 207
              · by_cases h203_207 : q < 205
                · by_cases h203_205 : q < 204
                  · have e : q = 203 := by omega
                    subst e
                    exact am_o2_ok am_vo203
                  · have e : q = 204 := by omega
                    subst e
                    exact am_o2_ok am_vo204
                · by_cases h205_207 : q < 206
                  · have e : q = 205 := by omega
                    subst e
                    exact am_o2_ok am_vo205
                  · have e : q = 206 := by omega
                    subst e
                    exact am_o2_ok am_vo206
              · by_cases h207_211 : q < 209
                · by_cases h207_209 : q < 208
                  · have e : q = 207 := by omega
                    subst e
                    exact am_o2_ok am_vo207
                  · have e : q = 208 := by omega
                    subst e
                    exact am_o2_ok am_vo208
                · by_cases h209_211 : q < 210
                  · have e : q = 209 := by omega
                    subst e
                    exact am_o2_ok am_vo209
                  · have e : q = 210 := by omega
                    subst e
                    exact am_o2_ok am_vo210
            · by_cases h211_220 : q < 215
              · by_cases h211_215 : q < 213
                · by_cases h211_213 : q < 212
                  · have e : q = 211 := by omega
                    subst e
                    exact am_o2_ok am_vo211
                  · have e : q = 212 := by omega
                    subst e
                    exact am_o2_ok am_vo212
                · by_cases h213_215 : q < 214
                  · have e : q = 213 := by omega
                    subst e
                    exact am_o2_ok am_vo213
                  · have e : q = 214 := by omega
                    subst e
                    exact am_o2_ok am_vo214
              · by_cases h215_220 : q < 217
                · by_cases h215_217 : q < 216
                  · have e : q = 215 := by omega
                    subst e
                    exact am_o2_ok am_vo215
                  · have e : q = 216 := by omega
                    subst e
                    exact am_o2_ok am_vo216
                · by_cases h217_220 : q < 218
                  · have e : q = 217 := by omega
                    subst e
                    exact am_o2_ok am_vo217
                  · by_cases h218_220 : q < 219
                    · have e : q = 218 := by omega
                      subst e
                      exact am_o2_ok am_vo218
                    · have e : q = 219 := by omega
                      subst e
                      exact am_o2_ok am_vo219
          · by_cases h220_237 : q < 228
            · by_cases h220_228 : q < 224
              · by_cases h220_224 : q < 222
                · by_cases h220_222 : q < 221
                  · have e : q = 220 := by omega
                    subst e
                    exact am_o2_ok am_vo220
                  · have e : q = 221 := by omega
                    subst e
                    exact am_o2_ok am_vo221
                · by_cases h222_224 : q < 223
                  · have e : q = 222 := by omega
                    subst e
                    exact am_o2_ok am_vo222
                  · have e : q = 223 := by omega
                    subst e
                    exact am_o2_ok am_vo223
              · by_cases h224_228 : q < 226
                · by_cases h224_226 : q < 225
                  · have e : q = 224 := by omega
                    subst e
                    exact am_o2_ok am_vo224
                  · have e : q = 225 := by omega
                    subst e
                    exact am_o2_ok am_vo225
                · by_cases h226_228 : q < 227
                  · have e : q = 226 := by omega
                    subst e
                    exact am_o2_ok am_vo226
                  · have e : q = 227 := by omega
                    subst e
                    exact am_o2_ok am_vo227
            · by_cases h228_237 : q < 232
              · by_cases h228_232 : q < 230
                · by_cases h228_230 : q < 229
                  · have e : q = 228 := by omega
                    subst e
                    exact am_o2_ok am_vo228
                  · have e : q = 229 := by omega
                    subst e
                    exact am_o2_ok am_vo229
                · by_cases h230_232 : q < 231
                  · have e : q = 230 := by omega
                    subst e
                    exact am_o2_ok am_vo230
                  · have e : q = 231 := by omega
                    subst e
                    exact am_o2_ok am_vo231
              · by_cases h232_237 : q < 234
                · by_cases h232_234 : q < 233
                  · have e : q = 232 := by omega
                    subst e
                    exact am_o2_ok am_vo232
                  · have e : q = 233 := by omega
                    subst e
                    exact am_o2_ok am_vo233
                · by_cases h234_237 : q < 235
                  · have e : q = 234 := by omega
                    subst e
                    exact am_o2_ok am_vo234
                  · by_cases h235_237 : q < 236
                    · have e : q = 235 := by omega
                      subst e
                      exact am_o2_ok am_vo235
                    · have e : q = 236 := by omega
                      subst e
                      exact am_o2_ok am_vo236
        · by_cases h237_271 : q < 254
          · by_cases h237_254 : q < 245
            · by_cases h237_245 : q < 241
              · by_cases h237_241 : q < 239
                · by_cases h237_239 : q < 238
                  · have e : q = 237 := by omega
                    subst e
                    exact am_o2_ok am_vo237
                  · have e : q = 238 := by omega
                    subst e
                    exact am_o2_ok am_vo238
                · by_cases h239_241 : q < 240
                  · have e : q = 239 := by omega
                    subst e
                    exact am_o2_ok am_vo239
                  · have e : q = 240 := by omega
                    subst e
                    exact am_o2_ok am_vo240
              · by_cases h241_245 : q < 243
                · by_cases h241_243 : q < 242
                  · have e : q = 241 := by omega
                    subst e
                    exact am_o2_ok am_vo241
                  · have e : q = 242 := by omega
                    subst e
                    exact am_o2_ok am_vo242
                · by_cases h243_245 : q < 244
                  · have e : q = 243 := by omega
                    subst e
                    exact am_o2_ok am_vo243
                  · have e : q = 244 := by omega
                    subst e
                    exact am_o2_ok am_vo244
            · by_cases h245_254 : q < 249
              · by_cases h245_249 : q < 247
                · by_cases h245_247 : q < 246
                  · have e : q = 245 := by omega
                    subst e
                    exact am_o2_ok am_vo245
                  · have e : q = 246 := by omega
                    subst e
                    exact am_o2_ok am_vo246
                · by_cases h247_249 : q < 248
                  · have e : q = 247 := by omega
                    subst e
                    exact am_o2_ok am_vo247
                  · have e : q = 248 := by omega
                    subst e
                    exact am_o2_ok am_vo248
              · by_cases h249_254 : q < 251
                · by_cases h249_251 : q < 250
                  · have e : q = 249 := by omega
                    subst e
                    exact am_o2_ok am_vo249
                  · have e : q = 250 := by omega
                    subst e
                    exact am_o2_ok am_vo250
                · by_cases h251_254 : q < 252
                  · have e : q = 251 := by omega
                    subst e
                    exact am_o2_ok am_vo251
                  · by_cases h252_254 : q < 253
                    · have e : q = 252 := by omega
                      subst e
                      exact am_o2_ok am_vo252
                    · have e : q = 253 := by omega
                      subst e
                      exact am_o2_ok am_vo253
          · by_cases h254_271 : q < 262
            · by_cases h254_262 : q < 258
              · by_cases h254_258 : q < 256
                · by_cases h254_256 : q < 255
                  · have e : q = 254 := by omega
                    subst e
                    exact am_o2_ok am_vo254
                  · have e : q = 255 := by omega
                    subst e
                    exact am_o2_ok am_vo255
                · by_cases h256_258 : q < 257
                  · have e : q = 256 := by omega
                    subst e
                    exact am_o2_ok am_vo256
                  · have e : q = 257 := by omega
                    subst e
                    exact am_o2_ok am_vo257
              · by_cases h258_262 : q < 260
                · by_cases h258_260 : q < 259
                  · have e : q = 258 := by omega
                    subst e
                    exact am_o2_ok am_vo258
                  · have e : q = 259 := by omega
                    subst e
                    exact am_o2_ok am_vo259
                · by_cases h260_262 : q < 261
                  · have e : q = 260 := by omega
                    subst e
                    exact am_o2_ok am_vo260
                  · have e : q = 261 := by omega
                    subst e
                    exact am_o2_ok am_vo261
            · by_cases h262_271 : q < 266
              · by_cases h262_266 : q < 264
                · by_cases h262_264 : q < 263
                  · have e : q = 262 := by omega
                    subst e
                    exact am_o2_ok am_vo262
                  · have e : q = 263 := by omega
                    subst e
                    exact am_o2_ok am_vo263
                · by_cases h264_266 : q < 265
                  · have e : q = 264 := by omega
                    subst e
                    exact am_o2_ok am_vo264
                  · have e : q = 265 := by omega
                    subst e
                    exact am_o2_ok am_vo265
              · by_cases h266_271 : q < 268
                · by_cases h266_268 : q < 267
                  · have e : q = 266 := by omega
                    subst e
                    exact am_o2_ok am_vo266
                  · have e : q = 267 := by omega
                    subst e
                    exact am_o2_ok am_vo267
                · by_cases h268_271 : q < 269
                  · have e : q = 268 := by omega
                    subst e
                    exact am_o2_ok am_vo268
                  · by_cases h269_271 : q < 270
                    · have e : q = 269 := by omega
                      subst e
                      exact am_o2_ok am_vo269
                    · have e : q = 270 := by omega
                      subst e
                      exact am_o2_ok am_vo270
