/-! ===== error: the reference ===== -/
section ME
variable {d N : Nat} {I : Nat → Nat → Int32} {L : Nat → Nat → Int64} {w : Option Nat} {Q : am_Q} {A b : List Nat} {T : Nat → Int32} {ip port : Int32} {U : UR} {rl X : List Nat} {fr : Int64} {s : SN}
theorem c_233 (hA : mT I A) (hm : msg A = true) (h55 : I 100 55 = oA (ats A) (fgi A (ats A))) (hp : po_m I (clr s)) (hT : tl_m I T) (h65 : I 100 65 = ip) (h66 : I 100 66 = port) {sg : Option Nat} (h67 : I 100 67 = oI sg) (hsg : ∀ k, sg = some k → k < U.length) (hk : mk I) (hr : mr I rl) (hrl : wd rl) (hok : us_ok U) (hu : us_m I L U) (hfr : L 100 29 = fr) (hX : mst I X) (hX8 : X.length ≤ 8) (hXb : ∀ c ∈ X, c < 65536) {e : Nat} (he : e ∈ errs) (hq : ∀ I' L', po_m I' (true, ip, port, nI 3478, fgb A (sgb U rl sg (errb (hdA A (mth (nb A 0 2)) e) rl fr X e))) → tl_m I' (inc (inc T 0) 4) → mk I' → fx PA SA I I' → fl [7] L L' → Q none (am_SH N, I', L', am_RR w)) : am_call (d + 7) 233 [.ref 100, .int (nI e)] (am_SH N, I, L, am_RR w) Q := by
  have hA20 : 20 ≤ A.length := by
    unfold msg hdk at hm
    rw [Bool.and_eq_true] at hm
    exact (of_decide_eq_true hm.1).1
  have hel := errs_lt e he
  have hr8 := hrl.1
  have hpad : pad4 rl.length ≤ 8 := by unfold pad4; omega
  obtain ⟨t1, t2, t3⟩ := id hA
  obtain ⟨s1, s2, s3, s4, s5⟩ := id hp
  have s5 : mS I [] := s5
  refine am_enter (ls := [some _, some _, none, none]) (cs := am_c233) rfl rfl (Nat.le_of_ble_eq_true rfl) rfl ?_
  refine wp_aload (k := 0) rfl rfl ?_
  refine wp_aload (k := 1) rfl rfl ?_
  refine w_gr (k := 2) (s := 14) rfl rfl (by first | assumption | rfl) (by first | assumption | rfl) ?_
  refine w_ic (k := 3) (x := nI 0) rfl (oi_nI 0) ?_
  refine w_Si (k := 4) [_, _] rfl rfl rfl (Nat.le_of_ble_eq_true rfl) (Or.inl ⟨rfl, rfl⟩) ?_
  refine (c_179 rfl (by decide) t2 (by omega) (by omega) ?_)
  refine ⟨_, rfl, ?_⟩
  refine w_Si (k := 5) [_] rfl rfl rfl (Nat.le_of_ble_eq_true rfl) (Or.inl ⟨rfl, rfl⟩) ?_
  refine (c_227 ?_)
  refine ⟨_, rfl, ?_⟩
  refine w_ic (k := 6) (x := nI 3) rfl (oi_nI 3) ?_
  refine w_Vv (k := 7) [_, _] rfl rfl rfl (Nat.le_of_ble_eq_true rfl) (by first | assumption | rfl) (Or.inl ⟨rfl, rfl⟩) ?_
  refine (c_225 hA hA20 s5 (by decide) (fun I1 k1 f1 => ⟨rfl, ?_⟩))
  have k1 : mS I1 (hdA A (mth (nb A 0 2)) e) := by unfold hdA; rw [if_neg (by omega)]; exact k1
  have hl20 : (hdA A (mth (nb A 0 2)) e).length = 20 := hd20_len _ _ _ _
  have hel2 := errb_len hl20 hr8 hX8 fr e
  generalize hdA A (mth (nb A 0 2)) e = H at *
  -- the end
  have fin1 : ∀ (I5 : Nat → Nat → Int32) (o1 o2 : Option Value), mS I5 (errb H rl fr X e) → fx [113] [17] I I5 → am_V 233 am_c233 (d + 6) (am_SH N) Q 104 [some (.ref 100), some (.int (nI e)), o1, o2] [] (am_SH N, I5, L, am_RR w) := by
    intro I5 o1 o2 k5 f5
    have v63 : I5 100 63 = T 4 := by rw [f5.2 63 (by decide)]; exact hT 4 (by decide)
    refine wp_aload (k := 104) rfl rfl ?_
    refine wp_dup (k := 105) rfl rfl ?_
    refine w_gi (k := 106) (s := 63) rfl rfl (by first | assumption | rfl) v63 ?_
    refine w_ic (k := 107) (x := nI 1) rfl (oi_nI 1) ?_
    refine wp_iadd (k := 108) rfl ?_
    refine w_pi (k := 109) (s := 63) rfl rfl (by first | assumption | rfl) ?_
    refine wp_aload (k := 110) rfl rfl ?_
    generalize hI6 : am_u I5 100 63 (T 4 + nI 1) = I6
    have F6 : fx [113] [17, 63] I I6 := by rw [← hI6]; exact fx_t (fx_mo f5 (by decide) (by decide)) (fx_s (by decide))
    have T6 : tl_m I6 (inc T 4) := by rw [← hI6]; exact tl_in (j := 4) (fun j hj => by rw [f5.2 _ (by simp; omega)]; exact hT j hj) (by decide) rfl
    have p6 : po_m I6 (false, s.2.1, s.2.2.1, s.2.2.2.1, errb H rl fr X e) := ⟨by rw [F6.2 18 (by decide)]; exact s1, by rw [F6.2 19 (by decide)]; exact s2, by rw [F6.2 20 (by decide)]; exact s3, by rw [F6.2 21 (by decide)]; exact s4, mS_k k5 (P := []) (S := [63]) (by rw [← hI6]; exact fx_s (by decide)) (by decide) (by decide)⟩
    refine w_Vv (k := 111) [] rfl rfl rfl (Nat.le_of_ble_eq_true rfl) (by first | assumption | rfl) (Or.inl ⟨rfl, rfl⟩) ?_
    refine (c_232 (ip := ip) (port := port) (sg := sg) hm t2.2 t3 (by rw [F6.2 55 (by decide)]; exact h55) p6 hel2.1 hel2.2 T6 (by rw [F6.2 65 (by decide)]; exact h65) (by rw [F6.2 66 (by decide)]; exact h66) (by rw [F6.2 67 (by decide)]; exact h67) hsg (mk_k hk (F6.1 101 (by decide) (by decide)) (F6.1 102 (by decide) (by decide))) ⟨by rw [F6.2 28 (by decide)]; exact hr.1, av_keep hr.2 (F6.1 117 (by decide) (by decide))⟩ hrl hok (us_m_k hu F6 (by decide) rfl rfl) (fun I7 L7 p7 t7 m7 f7 g7 => ⟨rfl, ?_⟩))
    refine w_rv (k := 112) rfl rfl rfl rfl ?_
    refine hq I7 L7 p7 (tl_eq t7 (fun j hj => ?_)) m7 (fx_t (fx_mo F6 (by decide) (by decide)) f7) g7
    unfold inc
    by_cases e0 : j = 0
    · subst e0; simp
    · by_cases e1 : j = 4
      · subst e1; simp
      · simp [e0, e1]
  have w28 : I1 100 28 = nI rl.length := by rw [f1.2 28 (by decide)]; exact hr.1
  refine wp_aload (k := 8) rfl rfl ?_
  refine w_ic (k := 9) (x := nI 9) rfl (oi_nI 9) ?_
  refine wp_iload (k := 10) rfl rfl ?_
  refine w_ic (k := 11) (x := nI 100) rfl (oi_nI 100) ?_
  refine wp_idiv (k := 12) rfl (by decide) ?_
  refine w_ic (k := 13) (x := nI 8) rfl (oi_nI 8) ?_
  refine wp_ishl (k := 14) rfl ?_
  refine wp_iload (k := 15) rfl rfl ?_
  refine w_ic (k := 16) (x := nI 100) rfl (oi_nI 100) ?_
  refine wp_irem (k := 17) rfl (by decide) ?_
  refine wp_ior (k := 18) rfl ?_
  rw [err_n e he]
  refine w_Vv (k := 19) [_, _] rfl rfl rfl (Nat.le_of_ble_eq_true rfl) (by first | assumption | rfl) (Or.inl ⟨rfl, rfl⟩) ?_
  refine (c_231 k1 (by omega) (by omega) (fun I2 k2 f2 => ⟨rfl, ?_⟩))
  rw [uI_nI (by decide), uI_nI (by omega)] at k2
  have F2 : fx [113] [17] I I2 := fx_t f1 f2
  have len2 : (at_ H 9 (be 4 (e / 100 * 256 + e % 100))).length = 28 := by rw [at_len (by omega), be_len, hl20, pad4_4]
  have ex : errb H rl fr X e = if e = 401 ∨ e = 438 then at_ (at_ (at_ H 9 (be 4 (e / 100 * 256 + e % 100))) 20 rl) 21 (be 8 (uN fr)) else if e = 420 then at_ (at_ H 9 (be 4 (e / 100 * 256 + e % 100))) 10 (twos X) else at_ H 9 (be 4 (e / 100 * 256 + e % 100)) := rfl
  generalize at_ H 9 (be 4 (e / 100 * 256 + e % 100)) = G at *
  have hend : e ≠ 401 → e ≠ 438 → am_V 233 am_c233 (d + 6) (am_SH N) Q 73 [some (.ref 100), some (.int (nI e)), none, none] [] (am_SH N, I2, L, am_RR w) := fun n1 n2 => by
    rw [if_neg (by omega)] at ex
    refine wp_iload (k := 73) rfl rfl ?_
    refine w_ic (k := 74) (x := nI 420) rfl (oi_nI 420) ?_
    refine w_n_ne (k := 75) (t' := 104) rfl rfl (by omega) (fun c1 => ?_) (fun c1 => ?_)
    · rw [if_neg c1] at ex
      exact fin1 I2 _ _ (by rw [ex]; exact k2) F2
    · rw [if_pos c1] at ex
      have hp16 : pad4 (2 * X.length) ≤ 16 := by unfold pad4; omega
      have v58 : I2 100 58 = nI X.length := by rw [F2.2 58 (by decide)]; exact hX.1
      refine wp_aload (k := 76) rfl rfl ?_
      refine w_ic (k := 77) (x := nI 10) rfl (oi_nI 10) ?_
      refine w_ic (k := 78) (x := nI 2) rfl (oi_nI 2) ?_
      refine wp_aload (k := 79) rfl rfl ?_
      refine w_gi (k := 80) (s := 58) rfl rfl (by first | assumption | rfl) v58 ?_
      refine w_mulN (k := 81) rfl ?_
      refine w_Vi (k := 82) [_, _] rfl rfl rfl (Nat.le_of_ble_eq_true rfl) (by first | assumption | rfl) (Or.inl ⟨rfl, rfl⟩) ?_
      refine (c_229 k2 (by omega) (m := 2 * X.length) (by omega) (fun I3 k3 f3 => ⟨_, rfl, ?_⟩))
      refine wp_istore (k := 83) (ls2 := [some _, some _, some _, none]) rfl rfl ?_
      refine w_ic (k := 84) (x := nI 0) rfl (oi_nI 0) ?_
      refine wp_istore (k := 85) (ls2 := [some _, some _, some _, some _]) rfl rfl ?_
      obtain ⟨i1, i2, i3⟩ := k3
      rw [uI_nI (by decide)] at i1 i2
      have hXl : G.length + 4 ≤ (hd_ G 10 (2 * X.length) ++ List.replicate (pad4 (2 * X.length)) 0).length := by rw [hz_len (by omega)]; omega
      have hzl := hz_len (A := G) (by omega) 10 (2 * X.length)
      have F3 : fx [113] [17] I I3 := fx_t F2 f3
      have pge := pad4_ge (2 * X.length)
      have htl : (twos X).length = 2 * X.length := twos_len X
      have loop : ∀ (r j : Nat) (I4 : Nat → Nat → Int32), j + r = X.length → av I4 113 (wr (hd_ G 10 (2 * X.length) ++ List.replicate (pad4 (2 * X.length)) 0) (G.length + 4) (twos (X.take j))) → (∀ x, x ≠ 113 → I4 x = I3 x) → am_V 233 am_c233 (d + 6) (am_SH N) Q 86 [some (.ref 100), some (.int (nI e)), some (.int (nI (G.length + 4))), some (.int (nI j))] [] (am_SH N, I4, L, am_RR w) := by
        intro r
        induction r with
        | zero =>
          intro j I4 hj a4 f4
          have w58 : I4 100 58 = nI X.length := by rw [f4 100 (by decide), F3.2 58 (by decide)]; exact hX.1
          rw [List.take_of_length_le (by omega), at_fill (by omega) htl, ← ex] at a4
          have hlx : (errb H rl fr X e).length = G.length + 4 + pad4 (2 * X.length) := by rw [ex, at_len (by omega), htl]
          refine wp_iload (k := 86) rfl rfl ?_
          refine wp_aload (k := 87) rfl rfl ?_
          refine w_gi (k := 88) (s := 58) rfl rfl (by first | assumption | rfl) w58 ?_
          refine w_n_ge (k := 89) (t' := 104) rfl rfl (by omega) (fun zq => ?_) (fun zq => absurd zq (by omega))
          exact fin1 I4 _ _ ⟨by rw [f4 100 (by decide), i1, hlx, hzl], a4, by omega⟩ (fx_t F3 (fx_a (a := 113) f4 (by decide) (by decide)))
        | succ r ih =>
          intro j I4 hj a4 f4
          have w58 : I4 100 58 = nI X.length := by rw [f4 100 (by decide), F3.2 58 (by decide)]; exact hX.1
          have vx : I4 138 j = nI (X.getD j 0) := by rw [f4 138 (by decide), F3.1 138 (by decide) (by decide)]; exact hX.2 j (by omega)
          have hxj := hXb (X.getD j 0) (gD_mem (by omega))
          have hlj : (twos (X.take j)).length = 2 * j := by rw [twos_len, List.length_take]; omega
          refine wp_iload (k := 86) rfl rfl ?_
          refine wp_aload (k := 87) rfl rfl ?_
          refine w_gi (k := 88) (s := 58) rfl rfl (by first | assumption | rfl) w58 ?_
          refine w_n_ge (k := 89) (t' := 104) rfl rfl (by omega) (fun zq => absurd zq (by omega)) (fun zq => ?_)
          refine wp_aload (k := 90) rfl rfl ?_
          refine w_gr (k := 91) (s := 16) rfl rfl (by first | assumption | rfl) (by first | assumption | rfl) ?_
          refine wp_iload (k := 92) rfl rfl ?_
          refine w_ic (k := 93) (x := nI 2) rfl (oi_nI 2) ?_
          refine wp_iload (k := 94) rfl rfl ?_
          refine w_mulN (k := 95) rfl ?_
          refine w_addN (k := 96) rfl ?_
          refine wp_aload (k := 97) rfl rfl ?_
          refine w_gr (k := 98) (s := 57) rfl rfl (by first | assumption | rfl) (by first | assumption | rfl) ?_
          refine wp_iload (k := 99) rfl rfl ?_
          refine w_iald (k := 100) rfl rfl (by first | assumption | rfl) (by omega) vx ?_
          refine w_Sv (k := 101) [_, _, _] rfl rfl rfl (Nat.le_of_ble_eq_true rfl) (Or.inl ⟨rfl, rfl⟩) ?_
          refine (c_181 rfl (by decide) (by decide) a4 (by rw [wr_in (by rw [hlj]; omega)]; omega) (by omega) (fun I5 k5 f5 => ⟨rfl, ?_⟩))
          refine w_incN (k := 102) (m := 1) rfl (oi_nI 1) rfl ?_
          refine w_goto (k := 103) (t' := 86) rfl rfl ?_
          rw [wr_wr (by omega) (by rw [hlj]), uI_nI (by omega)] at k5
          refine ih (j + 1) I5 (by omega) ?_ (fun x hx => by rw [f5 x hx, f4 x hx])
          rw [← tk_app (by omega), twos_app]
          rw [show twos [X.getD j 0] = be 2 (X.getD j 0) by simp [twos]]
          exact k5
      exact loop X.length 0 I3 (by omega) (by rw [List.take_zero]; show av I3 113 (wr _ _ []); rw [wr_nil]; exact i2) (fun _ _ => rfl)
  have hgo : e = 401 ∨ e = 438 → am_V 233 am_c233 (d + 6) (am_SH N) Q 26 [some (.ref 100), some (.int (nI e)), none, none] [] (am_SH N, I2, L, am_RR w) := fun n1 => by
    rw [if_pos n1] at ex
    have v28 : I2 100 28 = nI rl.length := by rw [F2.2 28 (by decide)]; exact hr.1
    refine wp_aload (k := 26) rfl rfl ?_
    refine w_ic (k := 27) (x := nI 20) rfl (oi_nI 20) ?_
    refine wp_aload (k := 28) rfl rfl ?_
    refine w_gi (k := 29) (s := 28) rfl rfl (by first | assumption | rfl) v28 ?_
    refine w_Vi (k := 30) [_, _] rfl rfl rfl (Nat.le_of_ble_eq_true rfl) (by first | assumption | rfl) (Or.inl ⟨rfl, rfl⟩) ?_
    refine (c_229 k2 (by omega) (m := rl.length) (by omega) (fun I3 k3 f3 => ⟨_, rfl, ?_⟩))
    refine wp_istore (k := 31) (ls2 := [some _, some _, some _, none]) rfl rfl ?_
    refine w_ic (k := 32) (x := nI 0) rfl (oi_nI 0) ?_
    refine wp_istore (k := 33) (ls2 := [some _, some _, some _, some _]) rfl rfl ?_
    obtain ⟨i1, i2, i3⟩ := k3
    rw [uI_nI (by decide)] at i1 i2
    have hzl := hz_len (A := G) (by omega) 20 rl.length
    have hXl : G.length + 4 ≤ (hd_ G 20 rl.length ++ List.replicate (pad4 rl.length) 0).length := by rw [hzl]; omega
    have F3 : fx [113] [17] I I3 := fx_t F2 f3
    have loop : ∀ (r j : Nat) (I4 : Nat → Nat → Int32), j + r = rl.length → av I4 113 (wr (hd_ G 20 rl.length ++ List.replicate (pad4 rl.length) 0) (G.length + 4) (rl.take j)) → (∀ x, x ≠ 113 → I4 x = I3 x) → am_V 233 am_c233 (d + 6) (am_SH N) Q 34 [some (.ref 100), some (.int (nI e)), some (.int (nI (G.length + 4))), some (.int (nI j))] [] (am_SH N, I4, L, am_RR w) := by
      intro r
      induction r with
      | zero =>
        intro j I4 hj a4 f4
        have w28 : I4 100 28 = nI rl.length := by rw [f4 100 (by decide), F3.2 28 (by decide)]; exact hr.1
        rw [List.take_of_length_le (by omega), at_fill (by omega) rfl] at a4
        have hl4 : (at_ G 20 rl).length = 32 + pad4 rl.length := by rw [at_len (by omega), len2]
        have S4 : mS I4 (at_ G 20 rl) := ⟨by rw [f4 100 (by decide), i1, hl4, hzl, len2], a4, by omega⟩
        have F4 : fx [113] [17] I I4 := fx_t F3 (fx_a (a := 113) f4 (by decide) (by decide))
        generalize at_ G 20 rl = G2 at *
        refine wp_iload (k := 34) rfl rfl ?_
        refine wp_aload (k := 35) rfl rfl ?_
        refine w_gi (k := 36) (s := 28) rfl rfl (by first | assumption | rfl) w28 ?_
        refine w_n_ge (k := 37) (t' := 50) rfl rfl (by omega) (fun zq => ?_) (fun zq => absurd zq (by omega))
        refine wp_aload (k := 50) rfl rfl ?_
        refine w_ic (k := 51) (x := nI 21) rfl (oi_nI 21) ?_
        refine w_ic (k := 52) (x := nI 8) rfl (oi_nI 8) ?_
        refine w_Vi (k := 53) [_, _] rfl rfl rfl (Nat.le_of_ble_eq_true rfl) (by first | assumption | rfl) (Or.inl ⟨rfl, rfl⟩) ?_
        refine (c_229 S4 (by omega) (m := 8) (by rw [pad4_8]; omega) (fun I5 k5 f5 => ⟨_, rfl, ?_⟩))
        refine wp_istore (k := 54) (ls2 := [some _, some _, some _, some _]) rfl rfl ?_
        obtain ⟨y1, y2, y3⟩ := k5
        rw [uI_nI (by decide)] at y1 y2
        have hz5 := hz_len (A := G2) (by omega) 21 8
        have hX5 : G2.length + 4 ≤ (hd_ G2 21 8 ++ List.replicate (pad4 8) 0).length := by rw [hz5]; omega
        refine wp_aload (k := 55) rfl rfl ?_
        refine w_gr (k := 56) (s := 16) rfl rfl (by first | assumption | rfl) (by first | assumption | rfl) ?_
        refine wp_iload (k := 57) rfl rfl ?_
        refine wp_aload (k := 58) rfl rfl ?_
        refine w_gl (k := 59) (s := 29) rfl rfl (by first | assumption | rfl) hfr ?_
        refine w_ic (k := 60) (x := nI 32) rfl (oi_nI 32) ?_
        refine wp_lshr (k := 61) rfl ?_
        refine wp_l2i (k := 62) rfl ?_
        refine w_Sv (k := 63) [_, _, _] rfl rfl rfl (Nat.le_of_ble_eq_true rfl) (Or.inl ⟨rfl, rfl⟩) ?_
        refine (c_182 rfl (by decide) (by decide) y2 hX5 (by omega) (fun I6 k6 f6 => ⟨rfl, ?_⟩))
        have hl6 : (be 4 (uI (fr >>> ((nI 32).toInt64 &&& 63)).toInt32)).length = 4 := be_len _ _
        refine wp_aload (k := 64) rfl rfl ?_
        refine w_gr (k := 65) (s := 16) rfl rfl (by first | assumption | rfl) (by first | assumption | rfl) ?_
        refine wp_iload (k := 66) rfl rfl ?_
        refine w_ic (k := 67) (x := nI 4) rfl (oi_nI 4) ?_
        refine w_addN (k := 68) rfl ?_
        refine wp_aload (k := 69) rfl rfl ?_
        refine w_gl (k := 70) (s := 29) rfl rfl (by first | assumption | rfl) hfr ?_
        refine wp_l2i (k := 71) rfl ?_
        refine w_Sv (k := 72) [_, _, _] rfl rfl rfl (Nat.le_of_ble_eq_true rfl) (Or.inl ⟨rfl, rfl⟩) ?_
        refine (c_182 rfl (by decide) (by decide) k6 (by rw [wr_in (by rw [hl6, hz5, pad4_8]; omega)]; rw [hz5, pad4_8]; omega) (by omega) (fun I7 k7 f7 => ⟨rfl, ?_⟩))
        rw [wr_wr hX5 (by rw [hl6]), be8, at_fill (by omega) (be_len _ _), ← ex] at k7
        have hlx : (errb H rl fr X e).length = G2.length + 4 + 8 := by rw [ex, at_len (by omega), be_len, pad4_8]
        have F7 : fx [113] [17] I I7 := fx_t F4 (fx_t f5 (fx_t (fx_a (a := 113) f6 (by decide) (by decide)) (fx_a (a := 113) f7 (by decide) (by decide))))
        refine wp_iload (k := 73) rfl rfl ?_
        refine w_ic (k := 74) (x := nI 420) rfl (oi_nI 420) ?_
        refine w_n_ne (k := 75) (t' := 104) rfl rfl (by omega) (fun zq => ?_) (fun zq => absurd zq (by omega))
        exact fin1 I7 _ _ ⟨by rw [f7 100 (by decide), f6 100 (by decide), y1, hlx, hz5, pad4_8], k7, by omega⟩ F7
      | succ r ih =>
        intro j I4 hj a4 f4
        have w28 : I4 100 28 = nI rl.length := by rw [f4 100 (by decide), F3.2 28 (by decide)]; exact hr.1
        have vx : I4 117 j = nI (rl.getD j 0) := by rw [f4 117 (by decide), F3.1 117 (by decide) (by decide)]; exact hr.2.1 j (by omega)
        refine wp_iload (k := 34) rfl rfl ?_
        refine wp_aload (k := 35) rfl rfl ?_
        refine w_gi (k := 36) (s := 28) rfl rfl (by first | assumption | rfl) w28 ?_
        refine w_n_ge (k := 37) (t' := 50) rfl rfl (by omega) (fun zq => absurd zq (by omega)) (fun zq => ?_)
        refine wp_aload (k := 38) rfl rfl ?_
        refine w_gr (k := 39) (s := 16) rfl rfl (by first | assumption | rfl) (by first | assumption | rfl) ?_
        refine wp_iload (k := 40) rfl rfl ?_
        refine wp_iload (k := 41) rfl rfl ?_
        refine w_addN (k := 42) rfl ?_
        refine wp_aload (k := 43) rfl rfl ?_
        refine w_gr (k := 44) (s := 27) rfl rfl (by first | assumption | rfl) (by first | assumption | rfl) ?_
        refine wp_iload (k := 45) rfl rfl ?_
        refine w_iald (k := 46) rfl rfl (by first | assumption | rfl) (by omega) vx ?_
        refine w_iast (k := 47) rfl rfl (by omega) (by first | assumption | rfl) (by omega) ?_
        refine w_incN (k := 48) (m := 1) rfl (oi_nI 1) rfl ?_
        refine w_goto (k := 49) (t' := 34) rfl rfl ?_
        exact ih (j + 1) _ (by omega) (av_step a4 (by omega) hXl hr.2.2) (fun x hx => by rw [am_uR hx, f4 x hx])
    exact loop rl.length 0 I3 (by omega) (by rw [List.take_zero, wr_nil]; exact i2) (fun _ _ => rfl)
  refine wp_iload (k := 20) rfl rfl ?_
  refine w_ic (k := 21) (x := nI 401) rfl (oi_nI 401) ?_
  refine w_n_eq (k := 22) (t' := 26) rfl rfl (by omega) (fun c1 => ?_) (fun c1 => ?_)
  · exact hgo (Or.inl c1)
  · refine wp_iload (k := 23) rfl rfl ?_
    refine w_ic (k := 24) (x := nI 438) rfl (oi_nI 438) ?_
    refine w_n_ne (k := 25) (t' := 73) rfl rfl (by omega) (fun c2 => ?_) (fun c2 => ?_)
    · exact hend c1 c2
    · exact hgo (Or.inr c2)
end ME
