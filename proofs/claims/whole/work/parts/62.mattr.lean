/-! ===== attribute and count of the reference ===== -/
section MAT
variable {d N : Nat} {I : Nat → Nat → Int32} {L : Nat → Nat → Int64} {w : Option Nat} {Q : am_Q} {s : SN} {T : Nat → Int32}
theorem i_or8 {m c : Nat} (hm : m < 16777216) (hc : c < 256) : nI m <<< (nI 8 &&& 31) ||| nI c = nI (m * 256 + c) := by
  rw [i_shl (by decide) (by omega), i_or (by omega)]
theorem c_259 (h : po_m I s) (hok : sn_ok s) {i x : Int32} (hq : ∀ I', fx [135, 136, 137] [0] I I' → Q (some (.int (sp_at s.2.2.2.2 i x))) (am_SH N, I', L, am_RR w)) : am_call (d + 5) 259 [.ref 100, .int i, .int x] (am_SH N, I, L, am_RR w) Q := by
  have h0 := po_m0 (v := nI 0) h
  have f0 : fx [135, 136, 137] [0] I (am_u I 100 0 (nI 0)) := fx_s (by decide)
  generalize hI0 : am_u I 100 0 (nI 0) = I0 at *
  have hsp : sp_at s.2.2.2.2 i x = if msg s.2.2.2.2 = false ∨ i < 0 ∨ nI (ats s.2.2.2.2).length ≤ i then -1 else tlt s.2.2.2.2 ((ats s.2.2.2.2).getD i.toNatClampNeg a0) i.toNatClampNeg x := rfl
  rw [hsp] at hq
  have no : ∀ ls (I1 : Nat → Nat → Int32), fx [135, 136, 137] [0] I I1 → (msg s.2.2.2.2 = false ∨ i < 0 ∨ nI (ats s.2.2.2.2).length ≤ i) → am_V 259 am_c259 (d + 4) (am_SH N) Q 15 ls [] (am_SH N, I1, L, am_RR w) := by
    intro ls I1 f1 hy
    rw [if_pos hy] at hq
    refine w_ic (k := 15) (x := (-1)) rfl (by decide) ?_
    refine w_ri (k := 16) rfl rfl rfl rfl ?_
    exact hq I1 f1
  refine am_enter (ls := [some _, some _, some _, none, none, none, none]) (cs := am_c259) rfl rfl (Nat.le_of_ble_eq_true rfl) rfl ?_
  refine wp_aload (k := 0) rfl rfl ?_
  refine w_ic (k := 1) (x := nI 0) rfl (oi_nI 0) ?_
  refine w_pi (k := 2) (s := 0) rfl rfl (by first | assumption | rfl) ?_
  rw [hI0]
  refine wp_iload (k := 3) rfl rfl ?_
  refine w_z_lt (k := 4) (t' := 15) rfl rfl (fun c1 => ?_) (fun c1 => ?_)
  · exact no _ I0 f0 (Or.inr (Or.inl c1))
  · obtain ⟨j, hj, rfl⟩ := nI_of c1
    refine wp_iload (k := 5) rfl rfl ?_
    refine wp_aload (k := 6) rfl rfl ?_
    refine w_Vi (k := 7) [] rfl rfl rfl (Nat.le_of_ble_eq_true rfl) (by first | assumption | rfl) (Or.inl ⟨rfl, rfl⟩) ?_
    refine (c_256 h0 hok (fun I1 a1 f1 => ⟨_, rfl, ?_⟩))
    have f1' : fx [135, 136, 137] [0] I I1 := fx_t f0 (fx_mo f1 (by decide) (by decide))
    obtain ⟨-, -, -, -, ⟨g1, g2, g3⟩⟩ := h0
    have h100 := hok.2.2
    have h436 := hok.2.1
    generalize hB : s.2.2.2.2 = B at *
    have g2 : av I1 113 B := av_keep g2 (f1.1 113 (by decide) (by decide))
    have hal := ats_len B
    cases hm : msg B with
    | false =>
      rw [if_neg (by decide)]
      refine w_n_ge (k := 8) (t' := 15) rfl rfl (by omega) (fun zq => ?_) (fun zq => absurd zq (by omega))
      exact no _ I1 f1' (Or.inl hm)
    | true =>
      rw [if_pos rfl]
      have h100 := h100 hm
      refine w_n_ge (k := 8) (t' := 15) rfl rfl (by omega) (fun c2 => ?_) (fun c2 => ?_)
      · exact no _ I1 f1' (Or.inr (Or.inr (nI_le c2 (by omega))))
      · rw [if_neg (fun z => z.elim (fun y => by rw [hm] at y; cases y) (fun z => z.elim c1 (nI_ge c2 (by omega)))), nI_clamp (by omega)] at hq
        obtain ⟨v1, v2, v3⟩ := a1 hm j c2
        obtain ⟨b1, b2, b3, b4⟩ := ats_at g2.2 c2
        have hfit := ats_fit hm c2
        have hpo : poo B j = nI (nb B (((ats B).getD j a0).2.2 + 2) 2) ^^^ nI 8466 := rfl
        have hip : ipo B j = nI (nb B (((ats B).getD j a0).2.2 + 4) 4) ^^^ nI 554869826 := rfl
        refine wp_iload (k := 9) rfl rfl ?_
        refine wp_i2l (k := 10) rfl ?_
        refine w_lc (k := 11) (x := lN 0) rfl (ol_lN 0) ?_
        refine w_lc (k := 12) (x := lN 6) rfl (ol_lN 6) ?_
        refine w_Si (k := 13) [_, _, _] rfl rfl rfl (Nat.le_of_ble_eq_true rfl) (Or.inl ⟨rfl, rfl⟩) ?_
        refine (c_166 ?_)
        refine ⟨_, rfl, ?_⟩
        rw [show decide (lN 0 ≤ x.toInt64 ∧ x.toInt64 ≤ lN 6) = decide (¬ x < 0 ∧ ¬ nI 6 < x) from decide_eq_decide.mpr (in_kd x (by decide) (by decide))]
        generalize hkk : (ats B).getD j a0 = kk at *
        refine w_b_ne (k := 14) (t' := 17) rfl rfl (fun c3 => ?_) (fun c3 => ?_)
        · -- whether it is an address
          have go : am_V 259 am_c259 (d + 4) (am_SH N) Q 57 [some (.ref 100), some (.int (nI j)), some (.int x), some (.int (nI kk.2.2)), none, none, none] [.int (bI (decide (kk.1 = 18 ∨ kk.1 = 22 ∨ kk.1 = 32) && snd_ B kk))] (am_SH N, I1, L, am_RR w) := by
            unfold tlt at hq
            refine wp_istore (k := 57) (ls2 := [some _, some _, some _, some _, some _, none, none]) rfl rfl ?_
            refine wp_iload (k := 58) rfl rfl ?_
            by_cases k0 : x = nI 0
            · rw [if_pos k0] at hq
              subst k0
              refine w_sw (k := 59) (t' := 60) rfl (by decide) ?_
              refine wp_aload (k := 60) rfl rfl ?_
              refine w_gr (k := 61) (s := 50) rfl rfl (by first | assumption | rfl) (by first | assumption | rfl) ?_
              refine wp_iload (k := 62) rfl rfl ?_
              refine w_iald (k := 63) rfl rfl (by first | assumption | rfl) (by omega) v1 ?_
              refine w_ri (k := 64) rfl rfl rfl rfl ?_
              exact hq I1 f1'
            · rw [if_neg k0] at hq
              by_cases k1 : x = nI 1
              · rw [if_pos k1] at hq
                subst k1
                refine w_sw (k := 59) (t' := 65) rfl (by decide) ?_
                refine wp_aload (k := 65) rfl rfl ?_
                refine w_gr (k := 66) (s := 51) rfl rfl (by first | assumption | rfl) (by first | assumption | rfl) ?_
                refine wp_iload (k := 67) rfl rfl ?_
                refine w_iald (k := 68) rfl rfl (by first | assumption | rfl) (by omega) v2 ?_
                refine w_ri (k := 69) rfl rfl rfl rfl ?_
                exact hq I1 f1'
              · rw [if_neg k1] at hq
                by_cases k2 : x = nI 2
                · rw [if_pos k2] at hq
                  subst k2
                  refine w_sw (k := 59) (t' := 70) rfl (by decide) ?_
                  refine wp_iload (k := 70) rfl rfl ?_
                  refine w_ri (k := 71) rfl rfl rfl rfl ?_
                  exact hq I1 f1'
                · rw [if_neg k2] at hq
                  by_cases k3 : x = nI 3
                  · rw [if_pos k3] at hq
                    subst k3
                    have loop : ∀ (r z : Nat), z + r = min 4 kk.2.1 → am_V 259 am_c259 (d + 4) (am_SH N) Q 76 [some (.ref 100), some (.int (nI j)), some (.int (nI 3)), some (.int (nI kk.2.2)), some (.int (bI (decide (kk.1 = 18 ∨ kk.1 = 22 ∨ kk.1 = 32) && snd_ B kk))), some (.int (nI (nb B kk.2.2 z))), some (.int (nI z))] [] (am_SH N, I1, L, am_RR w) := by
                      intro r
                      induction r with
                      | zero =>
                        intro z hz
                        have fin3 : am_V 259 am_c259 (d + 4) (am_SH N) Q 98 [some (.ref 100), some (.int (nI j)), some (.int (nI 3)), some (.int (nI kk.2.2)), some (.int (bI (decide (kk.1 = 18 ∨ kk.1 = 22 ∨ kk.1 = 32) && snd_ B kk))), some (.int (nI (nb B kk.2.2 z))), some (.int (nI z))] [] (am_SH N, I1, L, am_RR w) := by
                          refine wp_iload (k := 98) rfl rfl ?_
                          refine w_ri (k := 99) rfl rfl rfl rfl ?_
                          rw [show z = min 4 kk.2.1 by omega]
                          exact hq I1 f1'
                        refine wp_iload (k := 76) rfl rfl ?_
                        refine wp_aload (k := 77) rfl rfl ?_
                        refine w_gr (k := 78) (s := 51) rfl rfl (by first | assumption | rfl) (by first | assumption | rfl) ?_
                        refine wp_iload (k := 79) rfl rfl ?_
                        refine w_iald (k := 80) rfl rfl (by first | assumption | rfl) (by omega) v2 ?_
                        refine w_n_ge (k := 81) (t' := 98) rfl rfl (by omega) (fun q1 => ?_) (fun q1 => ?_)
                        · exact fin3
                        · refine wp_iload (k := 82) rfl rfl ?_
                          refine w_ic (k := 83) (x := nI 4) rfl (oi_nI 4) ?_
                          refine w_n_ge (k := 84) (t' := 98) rfl rfl (by omega) (fun zq => ?_) (fun zq => absurd zq (by omega))
                          exact fin3
                      | succ r ih =>
                        intro z hz
                        have hz4 : z < 4 ∧ z < kk.2.1 := by omega
                        have hlt := nb_lt g2.2 kk.2.2 z
                        have hlt3 : nb B kk.2.2 z < 16777216 := Nat.lt_of_lt_of_le hlt (Nat.le_trans (Nat.pow_le_pow_right (by decide) (show z ≤ 3 by omega)) (by decide))
                        have hg := gd_lt g2.2 (kk.2.2 + z)
                        refine wp_iload (k := 76) rfl rfl ?_
                        refine wp_aload (k := 77) rfl rfl ?_
                        refine w_gr (k := 78) (s := 51) rfl rfl (by first | assumption | rfl) (by first | assumption | rfl) ?_
                        refine wp_iload (k := 79) rfl rfl ?_
                        refine w_iald (k := 80) rfl rfl (by first | assumption | rfl) (by omega) v2 ?_
                        refine w_n_ge (k := 81) (t' := 98) rfl rfl (by omega) (fun zq => absurd zq (by omega)) (fun zq => ?_)
                        refine wp_iload (k := 82) rfl rfl ?_
                        refine w_ic (k := 83) (x := nI 4) rfl (oi_nI 4) ?_
                        refine w_n_ge (k := 84) (t' := 98) rfl rfl (by omega) (fun zq => absurd zq (by omega)) (fun zq => ?_)
                        refine wp_iload (k := 85) rfl rfl ?_
                        refine w_ic (k := 86) (x := nI 8) rfl (oi_nI 8) ?_
                        refine wp_ishl (k := 87) rfl ?_
                        refine wp_aload (k := 88) rfl rfl ?_
                        refine w_gr (k := 89) (s := 16) rfl rfl (by first | assumption | rfl) (by first | assumption | rfl) ?_
                        refine wp_iload (k := 90) rfl rfl ?_
                        refine wp_iload (k := 91) rfl rfl ?_
                        refine w_addN (k := 92) rfl ?_
                        refine w_iald (k := 93) rfl rfl (by first | assumption | rfl) (by omega) (g2.1 (kk.2.2 + z) (by omega)) ?_
                        refine wp_ior (k := 94) rfl ?_
                        rw [i_or8 hlt3 hg]
                        refine wp_istore (k := 95) rfl rfl ?_
                        refine w_incN (k := 96) (m := 1) rfl (oi_nI 1) rfl ?_
                        refine w_goto (k := 97) (t' := 76) rfl rfl ?_
                        exact ih (z + 1) (by omega)
                    refine w_sw (k := 59) (t' := 72) rfl (by decide) ?_
                    refine w_ic (k := 72) (x := nI 0) rfl (oi_nI 0) ?_
                    refine wp_istore (k := 73) (ls2 := [some _, some _, some _, some _, some _, some _, none]) rfl rfl ?_
                    refine w_ic (k := 74) (x := nI 0) rfl (oi_nI 0) ?_
                    refine wp_istore (k := 75) (ls2 := [some _, some _, some _, some _, some _, some _, some _]) rfl rfl ?_
                    exact loop _ 0 (Nat.zero_add _)
                  · rw [if_neg k3] at hq
                    by_cases k4 : x = nI 4
                    · rw [if_pos k4] at hq
                      subst k4
                      refine w_sw (k := 59) (t' := 100) rfl (by decide) ?_
                      refine wp_iload (k := 100) rfl rfl ?_
                      refine w_b_eq (k := 101) (t' := 111) rfl rfl (fun q => ?_) (fun q => ?_)
                      · rw [if_neg (by rw [q]; decide)] at hq
                        refine w_ic (k := 111) (x := nI 0) rfl (oi_nI 0) ?_
                        refine w_ri (k := 112) rfl rfl rfl rfl ?_
                        exact hq I1 f1'
                      · rw [if_pos q, hpo] at hq
                        have h8 : kk.2.1 = 8 := by
                          rw [Bool.and_eq_true] at q
                          have q1 := of_decide_eq_true q.1
                          have q2 := q.2
                          unfold snd_ sndf at q2
                          rw [if_neg (by omega), if_neg (by omega), if_pos q1] at q2
                          exact (of_decide_eq_true q2).1
                        refine wp_aload (k := 102) rfl rfl ?_
                        refine w_gr (k := 103) (s := 16) rfl rfl (by first | assumption | rfl) (by first | assumption | rfl) ?_
                        refine wp_iload (k := 104) rfl rfl ?_
                        refine w_ic (k := 105) (x := nI 2) rfl (oi_nI 2) ?_
                        refine w_addN (k := 106) rfl ?_
                        refine w_Si (k := 107) [_, _] rfl rfl rfl (Nat.le_of_ble_eq_true rfl) (Or.inl ⟨rfl, rfl⟩) ?_
                        refine (c_179 (n := 500) rfl (by decide) g2 (by omega) g3 ?_)
                        refine ⟨_, rfl, ?_⟩
                        refine w_ic (k := 108) (x := nI 8466) rfl (oi_nI 8466) ?_
                        refine wp_ixor (k := 109) rfl ?_
                        refine w_goto (k := 110) (t' := 112) rfl rfl ?_
                        refine w_ri (k := 112) rfl rfl rfl rfl ?_
                        exact hq I1 f1'
                    · rw [if_neg k4] at hq
                      by_cases k5 : x = nI 5
                      · rw [if_pos k5] at hq
                        subst k5
                        refine w_sw (k := 59) (t' := 113) rfl (by decide) ?_
                        refine wp_iload (k := 113) rfl rfl ?_
                        refine w_b_eq (k := 114) (t' := 124) rfl rfl (fun q => ?_) (fun q => ?_)
                        · rw [if_neg (by rw [q]; decide)] at hq
                          refine w_ic (k := 124) (x := nI 0) rfl (oi_nI 0) ?_
                          refine w_ri (k := 125) rfl rfl rfl rfl ?_
                          exact hq I1 f1'
                        · rw [if_pos q, hip] at hq
                          have h8 : kk.2.1 = 8 := by
                            rw [Bool.and_eq_true] at q
                            have q1 := of_decide_eq_true q.1
                            have q2 := q.2
                            unfold snd_ sndf at q2
                            rw [if_neg (by omega), if_neg (by omega), if_pos q1] at q2
                            exact (of_decide_eq_true q2).1
                          refine wp_aload (k := 115) rfl rfl ?_
                          refine w_gr (k := 116) (s := 16) rfl rfl (by first | assumption | rfl) (by first | assumption | rfl) ?_
                          refine wp_iload (k := 117) rfl rfl ?_
                          refine w_ic (k := 118) (x := nI 4) rfl (oi_nI 4) ?_
                          refine w_addN (k := 119) rfl ?_
                          refine w_Si (k := 120) [_, _] rfl rfl rfl (Nat.le_of_ble_eq_true rfl) (Or.inl ⟨rfl, rfl⟩) ?_
                          refine (c_180 (n := 500) rfl (by decide) g2 (by omega) g3 ?_)
                          refine ⟨_, rfl, ?_⟩
                          refine w_ic (k := 121) (x := nI 554869826) rfl (oi_nI 554869826) ?_
                          refine wp_ixor (k := 122) rfl ?_
                          refine w_goto (k := 123) (t' := 125) rfl rfl ?_
                          refine w_ri (k := 125) rfl rfl rfl rfl ?_
                          exact hq I1 f1'
                      · rw [if_neg k5] at hq
                        have e : am_sw 126 x [(0, 60), (1, 65), (2, 70), (3, 72), (4, 100), (5, 113)] = 126 := am_sw_no (by
                          intro p hp
                          simp only [List.mem_cons, List.not_mem_nil, or_false] at hp
                          rcases hp with rfl | rfl | rfl | rfl | rfl | rfl
                          · exact k0
                          · exact k1
                          · exact k2
                          · exact k3
                          · exact k4
                          · exact k5)
                        have c3 := of_decide_eq_true c3
                        obtain ⟨y, hy, rfl⟩ := nI_of c3.1
                        have hy6 : y ≤ 6 := (nI_leI (by omega) (by decide)).mp (Int32.not_lt.mp c3.2)
                        have k6 : nI y = nI 6 := by
                          have z0 : y ≠ 0 := fun z => k0 (by rw [z])
                          have z1 : y ≠ 1 := fun z => k1 (by rw [z])
                          have z2 : y ≠ 2 := fun z => k2 (by rw [z])
                          have z3 : y ≠ 3 := fun z => k3 (by rw [z])
                          have z4 : y ≠ 4 := fun z => k4 (by rw [z])
                          have z5 : y ≠ 5 := fun z => k5 (by rw [z])
                          rw [show y = 6 by omega]
                        rw [if_pos k6] at hq
                        refine w_sw (k := 59) (t' := 126) rfl (by show (am_sw 126 (nI y) [(0, 60), (1, 65), (2, 70), (3, 72), (4, 100), (5, 113)]).toNat = 126; rw [e]; rfl) ?_
                        refine wp_aload (k := 126) rfl rfl ?_
                        refine w_gr (k := 127) (s := 50) rfl rfl (by first | assumption | rfl) (by first | assumption | rfl) ?_
                        refine wp_iload (k := 128) rfl rfl ?_
                        refine w_iald (k := 129) rfl rfl (by first | assumption | rfl) (by omega) v1 ?_
                        refine w_ic (k := 130) (x := nI 9) rfl (oi_nI 9) ?_
                        refine w_n_ne (k := 131) (t' := 154) rfl rfl (by omega) (fun q => ?_) (fun q => ?_)
                        · rw [if_neg (by rw [decide_eq_false q]; simp)] at hq
                          refine w_ic (k := 154) (x := nI 0) rfl (oi_nI 0) ?_
                          refine w_ri (k := 155) rfl rfl rfl rfl ?_
                          exact hq I1 f1'
                        · have es : snd_ B kk = decide (kk.2.1 = 4) := by
                            unfold snd_ sndf
                            rw [q, if_neg (by decide), if_neg (by decide), if_neg (by decide), if_pos (by decide)]
                          rw [es] at hq
                          refine wp_aload (k := 132) rfl rfl ?_
                          refine w_gr (k := 133) (s := 51) rfl rfl (by first | assumption | rfl) (by first | assumption | rfl) ?_
                          refine wp_iload (k := 134) rfl rfl ?_
                          refine w_iald (k := 135) rfl rfl (by first | assumption | rfl) (by omega) v2 ?_
                          refine w_ic (k := 136) (x := nI 4) rfl (oi_nI 4) ?_
                          refine w_n_ne (k := 137) (t' := 154) rfl rfl (by omega) (fun q2 => ?_) (fun q2 => ?_)
                          · rw [if_neg (by rw [decide_eq_false q2]; simp)] at hq
                            refine w_ic (k := 154) (x := nI 0) rfl (oi_nI 0) ?_
                            refine w_ri (k := 155) rfl rfl rfl rfl ?_
                            exact hq I1 f1'
                          · rw [if_pos (by rw [decide_eq_true q, decide_eq_true q2]; rfl), byA_n (by omega) (by omega), byA_n (by omega) (by omega)] at hq
                            refine wp_aload (k := 138) rfl rfl ?_
                            refine w_gr (k := 139) (s := 16) rfl rfl (by first | assumption | rfl) (by first | assumption | rfl) ?_
                            refine wp_iload (k := 140) rfl rfl ?_
                            refine w_ic (k := 141) (x := nI 2) rfl (oi_nI 2) ?_
                            refine w_addN (k := 142) rfl ?_
                            refine w_iald (k := 143) rfl rfl (by first | assumption | rfl) (by omega) (g2.1 (kk.2.2 + 2) (by omega)) ?_
                            refine w_ic (k := 144) (x := nI 100) rfl (oi_nI 100) ?_
                            refine wp_imul (k := 145) rfl ?_
                            refine wp_aload (k := 146) rfl rfl ?_
                            refine w_gr (k := 147) (s := 16) rfl rfl (by first | assumption | rfl) (by first | assumption | rfl) ?_
                            refine wp_iload (k := 148) rfl rfl ?_
                            refine w_ic (k := 149) (x := nI 3) rfl (oi_nI 3) ?_
                            refine w_addN (k := 150) rfl ?_
                            refine w_iald (k := 151) rfl rfl (by first | assumption | rfl) (by omega) (g2.1 (kk.2.2 + 3) (by omega)) ?_
                            refine wp_iadd (k := 152) rfl ?_
                            refine w_goto (k := 153) (t' := 155) rfl rfl ?_
                            refine w_ri (k := 155) rfl rfl rfl rfl ?_
                            exact hq I1 f1'
          have yes : (kk.1 = 18 ∨ kk.1 = 22 ∨ kk.1 = 32) → am_V 259 am_c259 (d + 4) (am_SH N) Q 40 [some (.ref 100), some (.int (nI j)), some (.int x), some (.int (nI kk.2.2)), none, none, none] [] (am_SH N, I1, L, am_RR w) := by
            intro hy
            have es : snd_ B kk = decide (kk.2.1 = 8 ∧ byA B (nI (kk.2.2 + 1)) = nI 1) := by
              unfold snd_ sndf
              rw [if_neg (by omega), if_neg (by omega), if_pos hy]
            rw [decide_eq_true hy, Bool.true_and, es] at go
            refine wp_aload (k := 40) rfl rfl ?_
            refine w_gr (k := 41) (s := 51) rfl rfl (by first | assumption | rfl) (by first | assumption | rfl) ?_
            refine wp_iload (k := 42) rfl rfl ?_
            refine w_iald (k := 43) rfl rfl (by first | assumption | rfl) (by omega) v2 ?_
            refine w_ic (k := 44) (x := nI 8) rfl (oi_nI 8) ?_
            refine w_n_ne (k := 45) (t' := 56) rfl rfl (by omega) (fun q1 => ?_) (fun q1 => ?_)
            · rw [decide_eq_false (fun z => q1 z.1)] at go
              refine w_ic (k := 56) (x := bI false) rfl rfl ?_
              exact go
            · rw [byA_n (by omega) (by omega)] at go
              have hg := gd_lt g2.2 (kk.2.2 + 1)
              refine wp_aload (k := 46) rfl rfl ?_
              refine w_gr (k := 47) (s := 16) rfl rfl (by first | assumption | rfl) (by first | assumption | rfl) ?_
              refine wp_iload (k := 48) rfl rfl ?_
              refine w_ic (k := 49) (x := nI 1) rfl (oi_nI 1) ?_
              refine w_addN (k := 50) rfl ?_
              refine w_iald (k := 51) rfl rfl (by first | assumption | rfl) (by omega) (g2.1 (kk.2.2 + 1) (by omega)) ?_
              refine w_ic (k := 52) (x := nI 1) rfl (oi_nI 1) ?_
              refine w_n_ne (k := 53) (t' := 56) rfl rfl (by omega) (fun q2 => ?_) (fun q2 => ?_)
              · rw [decide_eq_false (fun z => q2 ((nI_eq (by omega) (by decide)).mp z.2))] at go
                refine w_ic (k := 56) (x := bI false) rfl rfl ?_
                exact go
              · rw [decide_eq_true ⟨q1, by rw [q2]⟩] at go
                refine w_ic (k := 54) (x := bI true) rfl rfl ?_
                refine w_goto (k := 55) (t' := 57) rfl rfl ?_
                exact go
          refine wp_aload (k := 17) rfl rfl ?_
          refine w_gr (k := 18) (s := 52) rfl rfl (by first | assumption | rfl) (by first | assumption | rfl) ?_
          refine wp_iload (k := 19) rfl rfl ?_
          refine w_iald (k := 20) rfl rfl (by first | assumption | rfl) (by omega) v3 ?_
          refine wp_istore (k := 21) (ls2 := [some _, some _, some _, some _, none, none, none]) rfl rfl ?_
          refine wp_aload (k := 22) rfl rfl ?_
          refine w_gr (k := 23) (s := 50) rfl rfl (by first | assumption | rfl) (by first | assumption | rfl) ?_
          refine wp_iload (k := 24) rfl rfl ?_
          refine w_iald (k := 25) rfl rfl (by first | assumption | rfl) (by omega) v1 ?_
          refine w_ic (k := 26) (x := nI 18) rfl (oi_nI 18) ?_
          refine w_n_eq (k := 27) (t' := 40) rfl rfl (by omega) (fun p1 => ?_) (fun p1 => ?_)
          · exact yes (Or.inl p1)
          · refine wp_aload (k := 28) rfl rfl ?_
            refine w_gr (k := 29) (s := 50) rfl rfl (by first | assumption | rfl) (by first | assumption | rfl) ?_
            refine wp_iload (k := 30) rfl rfl ?_
            refine w_iald (k := 31) rfl rfl (by first | assumption | rfl) (by omega) v1 ?_
            refine w_ic (k := 32) (x := nI 22) rfl (oi_nI 22) ?_
            refine w_n_eq (k := 33) (t' := 40) rfl rfl (by omega) (fun p2 => ?_) (fun p2 => ?_)
            · exact yes (Or.inr (Or.inl p2))
            · refine wp_aload (k := 34) rfl rfl ?_
              refine w_gr (k := 35) (s := 50) rfl rfl (by first | assumption | rfl) (by first | assumption | rfl) ?_
              refine wp_iload (k := 36) rfl rfl ?_
              refine w_iald (k := 37) rfl rfl (by first | assumption | rfl) (by omega) v1 ?_
              refine w_ic (k := 38) (x := nI 32) rfl (oi_nI 32) ?_
              refine w_n_ne (k := 39) (t' := 56) rfl rfl (by omega) (fun p3 => ?_) (fun p3 => ?_)
              · rw [decide_eq_false (show ¬ (kk.1 = 18 ∨ kk.1 = 22 ∨ kk.1 = 32) by omega), Bool.false_and] at go
                refine w_ic (k := 56) (x := bI false) rfl rfl ?_
                exact go
              · exact yes (Or.inr (Or.inr p3))
        · have c3 := of_decide_eq_false c3
          refine w_ic (k := 15) (x := (-1)) rfl (by decide) ?_
          refine w_ri (k := 16) rfl rfl rfl rfl ?_
          have ht : tlt B kk j x = -1 := by
            have big : ∀ c : Nat, c ≤ 6 → x ≠ nI c := by
              intro c hc z
              subst z
              exact c3 ⟨nI_pos (by omega), fun y => absurd ((nI_ltI (by decide) (by omega)).mp y) (by omega)⟩
            unfold tlt
            rw [if_neg (big 0 (by decide)), if_neg (big 1 (by decide)), if_neg (big 2 (by decide)), if_neg (big 3 (by decide)), if_neg (big 4 (by decide)), if_neg (big 5 (by decide)), if_neg (big 6 (by decide))]
          rw [ht] at hq
          exact hq I1 f1'
theorem c_264 {al : Nat → Option AL} (h : tbm I L al) {t : Int64} (ht : L 100 34 = t) {u : Nat} (hu : I 100 26 = nI u) {A : List Nat} (hA : mT I A) (hT : tl_m I T) {x : Int32} (hq : Q (some (.int (sp_ct al t u A.length T x))) (am_SH N, am_u I 100 0 (nI 0), L, am_RR w)) : am_call (d + 1) 264 [.ref 100, .int x] (am_SH N, I, L, am_RR w) Q := by
  have h0 : tbm (am_u I 100 0 (nI 0)) L al := tbm_k h (fun x _ _ => am_uR (by omega)) (fun _ _ _ => rfl)
  have hu0 : am_u I 100 0 (nI 0) 100 26 = nI u := am_uw (by decide) hu
  have hA0 := (mT_0 (v := nI 0) hA).1
  have hT0 : tl_m (am_u I 100 0 (nI 0)) T := fun j hj => am_uw (by omega) (hT j hj)
  generalize hI0 : am_u I 100 0 (nI 0) = I0 at *
  unfold sp_ct at hq
  refine am_enter (ls := [some _, some _, none, none]) (cs := am_c264) rfl rfl (Nat.le_of_ble_eq_true rfl) rfl ?_
  refine wp_aload (k := 0) rfl rfl ?_
  refine w_ic (k := 1) (x := nI 0) rfl (oi_nI 0) ?_
  refine w_pi (k := 2) (s := 0) rfl rfl (by first | assumption | rfl) ?_
  rw [hI0]
  refine wp_iload (k := 3) rfl rfl ?_
  by_cases k0 : x = nI 0
  · rw [if_pos k0] at hq
    subst k0
    refine w_sw (k := 4) (t' := 5) rfl (by decide) ?_
    refine wp_aload (k := 5) rfl rfl ?_
    refine w_gl (k := 6) (s := 34) rfl rfl (by first | assumption | rfl) (by first | assumption | rfl) ?_
    refine w_lc (k := 7) (x := lN 2147483647) rfl (ol_lN 2147483647) ?_
    refine wp_land (k := 8) rfl ?_
    refine wp_l2i (k := 9) rfl ?_
    refine w_ri (k := 10) rfl rfl rfl rfl ?_
    exact hq
  · rw [if_neg k0] at hq
    by_cases k1 : x = nI 1
    · rw [if_pos k1] at hq
      subst k1
      refine w_sw (k := 4) (t' := 11) rfl (by decide) ?_
      refine wp_aload (k := 11) rfl rfl ?_
      refine w_gi (k := 12) (s := 26) rfl rfl (by first | assumption | rfl) hu0 ?_
      refine w_ri (k := 13) rfl rfl rfl rfl ?_
      exact hq
    · rw [if_neg k1] at hq
      by_cases k2 : x = nI 2
      · rw [if_pos k2] at hq
        subst k2
        have loop : ∀ (r i : Nat), i + r = 8 → am_V 264 am_c264 d (am_SH N) Q 18 [some (.ref 100), some (.int (nI 2)), some (.int (nI (cnt al i))), some (.int (nI i))] [] (am_SH N, I0, L, am_RR w) := by
          intro r
          induction r with
          | zero =>
            intro i hi
            obtain rfl : i = 8 := by omega
            refine wp_iload (k := 18) rfl rfl ?_
            refine w_ic (k := 19) (x := nI 8) rfl (oi_nI 8) ?_
            refine w_n_ge (k := 20) (t' := 34) rfl rfl (by omega) (fun zq => ?_) (fun zq => absurd zq (by omega))
            refine wp_iload (k := 34) rfl rfl ?_
            refine w_ri (k := 35) rfl rfl rfl rfl ?_
            exact hq
          | succ r ih =>
            intro i hi
            have th := om_th (h0 i (by omega))
            have hc := fb_ct_le (fun k => (al k).isSome) i
            refine wp_iload (k := 18) rfl rfl ?_
            refine w_ic (k := 19) (x := nI 8) rfl (oi_nI 8) ?_
            refine w_n_ge (k := 20) (t' := 34) rfl rfl (by omega) (fun zq => absurd zq (by omega)) (fun zq => ?_)
            refine wp_iload (k := 21) rfl rfl ?_
            refine wp_aload (k := 22) rfl rfl ?_
            refine w_gr (k := 23) (s := 35) rfl rfl (by first | assumption | rfl) (by first | assumption | rfl) ?_
            refine wp_iload (k := 24) rfl rfl ?_
            refine w_cald (k := 25) rfl rfl (by first | assumption | rfl) (by omega) th ?_
            refine w_b_eq (k := 26) (t' := 29) rfl rfl (fun k => ?_) (fun k => ?_)
            · have e : cnt al (i + 1) = cnt al i := by unfold cnt; rw [fb_ct_succ, k]; rfl
              refine w_ic (k := 29) (x := nI 0) rfl (oi_nI 0) ?_
              refine w_addN (k := 30) rfl ?_
              refine wp_istore (k := 31) rfl rfl ?_
              refine w_incN (k := 32) (m := 1) rfl (oi_nI 1) rfl ?_
              refine w_goto (k := 33) (t' := 18) rfl rfl ?_
              rw [Nat.add_zero, ← e]
              exact ih (i + 1) (by omega)
            · have e : cnt al (i + 1) = cnt al i + 1 := by unfold cnt; rw [fb_ct_succ, k]; rfl
              refine w_ic (k := 27) (x := nI 1) rfl (oi_nI 1) ?_
              refine w_goto (k := 28) (t' := 30) rfl rfl ?_
              refine w_addN (k := 30) rfl ?_
              refine wp_istore (k := 31) rfl rfl ?_
              refine w_incN (k := 32) (m := 1) rfl (oi_nI 1) rfl ?_
              refine w_goto (k := 33) (t' := 18) rfl rfl ?_
              rw [← e]
              exact ih (i + 1) (by omega)
        refine w_sw (k := 4) (t' := 14) rfl (by decide) ?_
        refine w_ic (k := 14) (x := nI 0) rfl (oi_nI 0) ?_
        refine wp_istore (k := 15) rfl rfl ?_
        refine w_ic (k := 16) (x := nI 0) rfl (oi_nI 0) ?_
        refine wp_istore (k := 17) rfl rfl ?_
        exact loop 8 0 (by omega)
      · rw [if_neg k2] at hq
        by_cases k3 : x = nI 3
        · rw [if_pos k3] at hq
          subst k3
          refine w_sw (k := 4) (t' := 36) rfl (by decide) ?_
          refine wp_aload (k := 36) rfl rfl ?_
          refine w_gi (k := 37) (s := 15) rfl rfl (by first | assumption | rfl) hA0 ?_
          refine w_ri (k := 38) rfl rfl rfl rfl ?_
          exact hq
        · rw [if_neg k3] at hq
          by_cases k4 : x = nI 4
          · subst k4
            rw [if_neg (by decide), show (nI 4).toNatClampNeg - 4 = 0 by decide] at hq
            refine w_sw (k := 4) (t' := 39) rfl (by decide) ?_
            refine wp_aload (k := 39) rfl rfl ?_
            refine w_gi (k := 40) (s := 59) rfl rfl (by first | assumption | rfl) (hT0 0 (by decide)) ?_
            refine w_ri (k := 41) rfl rfl rfl rfl ?_
            exact hq
          · by_cases k5 : x = nI 5
            · subst k5
              rw [if_neg (by decide), show (nI 5).toNatClampNeg - 4 = 1 by decide] at hq
              refine w_sw (k := 4) (t' := 42) rfl (by decide) ?_
              refine wp_aload (k := 42) rfl rfl ?_
              refine w_gi (k := 43) (s := 60) rfl rfl (by first | assumption | rfl) (hT0 1 (by decide)) ?_
              refine w_ri (k := 44) rfl rfl rfl rfl ?_
              exact hq
            · by_cases k6 : x = nI 6
              · subst k6
                rw [if_neg (by decide), show (nI 6).toNatClampNeg - 4 = 2 by decide] at hq
                refine w_sw (k := 4) (t' := 45) rfl (by decide) ?_
                refine wp_aload (k := 45) rfl rfl ?_
                refine w_gi (k := 46) (s := 61) rfl rfl (by first | assumption | rfl) (hT0 2 (by decide)) ?_
                refine w_ri (k := 47) rfl rfl rfl rfl ?_
                exact hq
              · by_cases k7 : x = nI 7
                · subst k7
                  rw [if_neg (by decide), show (nI 7).toNatClampNeg - 4 = 3 by decide] at hq
                  refine w_sw (k := 4) (t' := 48) rfl (by decide) ?_
                  refine wp_aload (k := 48) rfl rfl ?_
                  refine w_gi (k := 49) (s := 62) rfl rfl (by first | assumption | rfl) (hT0 3 (by decide)) ?_
                  refine w_ri (k := 50) rfl rfl rfl rfl ?_
                  exact hq
                · by_cases k8 : x = nI 8
                  · subst k8
                    rw [if_neg (by decide), show (nI 8).toNatClampNeg - 4 = 4 by decide] at hq
                    refine w_sw (k := 4) (t' := 51) rfl (by decide) ?_
                    refine wp_aload (k := 51) rfl rfl ?_
                    refine w_gi (k := 52) (s := 63) rfl rfl (by first | assumption | rfl) (hT0 4 (by decide)) ?_
                    refine w_ri (k := 53) rfl rfl rfl rfl ?_
                    exact hq
                  · by_cases k9 : x = nI 9
                    · subst k9
                      rw [if_neg (by decide), show (nI 9).toNatClampNeg - 4 = 5 by decide] at hq
                      refine w_sw (k := 4) (t' := 54) rfl (by decide) ?_
                      refine wp_aload (k := 54) rfl rfl ?_
                      refine w_gi (k := 55) (s := 64) rfl rfl (by first | assumption | rfl) (hT0 5 (by decide)) ?_
                      refine w_ri (k := 56) rfl rfl rfl rfl ?_
                      exact hq
                    · have hx : x < nI 4 ∨ nI 9 < x := by
                        refine Classical.not_not.mp (fun z => ?_)
                        have z1 : ¬ x < nI 4 := fun y => z (Or.inl y)
                        have z2 : ¬ nI 9 < x := fun y => z (Or.inr y)
                        have z0 : ¬ x < 0 := fun y => z1 (Int32.lt_trans y (by decide))
                        obtain ⟨y, hy, rfl⟩ := nI_of z0
                        have y4 : 4 ≤ y := (nI_leI (by decide) (by omega)).mp (Int32.not_lt.mp z1)
                        have y9 : y ≤ 9 := (nI_leI (by omega) (by decide)).mp (Int32.not_lt.mp z2)
                        have q4 : y ≠ 4 := fun e => k4 (by rw [e])
                        have q5 : y ≠ 5 := fun e => k5 (by rw [e])
                        have q6 : y ≠ 6 := fun e => k6 (by rw [e])
                        have q7 : y ≠ 7 := fun e => k7 (by rw [e])
                        have q8 : y ≠ 8 := fun e => k8 (by rw [e])
                        have q9 : y ≠ 9 := fun e => k9 (by rw [e])
                        omega
                      rw [if_pos hx] at hq
                      have e : am_sw 57 x [(0, 5), (1, 11), (2, 14), (3, 36), (4, 39), (5, 42), (6, 45), (7, 48), (8, 51), (9, 54)] = 57 := am_sw_no (by
                        intro p hp
                        simp only [List.mem_cons, List.not_mem_nil, or_false] at hp
                        rcases hp with rfl | rfl | rfl | rfl | rfl | rfl | rfl | rfl | rfl | rfl
                        · exact k0
                        · exact k1
                        · exact k2
                        · exact k3
                        · exact k4
                        · exact k5
                        · exact k6
                        · exact k7
                        · exact k8
                        · exact k9)
                      refine w_sw (k := 4) (t' := 57) rfl (by show (am_sw 57 x [(0, 5), (1, 11), (2, 14), (3, 36), (4, 39), (5, 42), (6, 45), (7, 48), (8, 51), (9, 54)]).toNat = 57; rw [e]; rfl) ?_
                      refine w_ic (k := 57) (x := (-1)) rfl (by decide) ?_
                      refine w_ri (k := 58) rfl rfl rfl rfl ?_
                      exact hq
end MAT
