/-! ===== the desk of the reference ===== -/
theorem be_app : ∀ (w v m : Nat), be (w + v) m = be w (m / 256 ^ v) ++ be v m
  | 0, v, m => by simp [be]
  | w + 1, v, m => by
    rw [show w + 1 + v = (w + v) + 1 by omega, be, be, List.cons_append, be_app w v m, Nat.div_div_eq_div_mul, ← Nat.pow_add, Nat.add_comm v w]
theorem l_hi (v : Int64) : (v >>> ((nI 32).toInt64 &&& 63)).toInt32 = nI (uN v / 2 ^ 32) := by
  have hs : ((lN 32).toBitVec.smod 64).toNat = 32 := by decide
  rw [wb_c 32 (by decide)]
  apply b_ext
  intro i hi
  rw [bt_nI _ _ hi, Nat.testBit_div_two_pow]
  unfold bt
  rw [Int64.toBitVec_toInt32, BitVec.signExtend_eq_setWidth_of_le _ (by decide), BitVec.getLsbD_setWidth, Int64.toBitVec_shiftRight, BitVec.sshiftRight_eq', hs, BitVec.getLsbD_sshiftRight, if_pos (by omega)]
  simp [hi, show ¬ 64 ≤ i by omega, Nat.add_comm]
  rfl
theorem l_lo (v : Int64) : v.toInt32 = nI (uN v % 2 ^ 32) := by rw [← uI_l, nI_uI]
theorem be8 (v : Int64) : be 4 (uI (v >>> ((nI 32).toInt64 &&& 63)).toInt32) ++ be 4 (uI v.toInt32) = be 8 (uN v) := by
  have h := uN_lt v
  rw [l_hi, l_lo, uI_nI (by omega), uI_nI (by omega), be_app 4 4, show (2 : Nat) ^ 32 = 256 ^ 4 from rfl, be_mod 4 _ 4 (by decide)]
theorem rs_s (A : List Nat) : rs (some A) = nI A.length := rfl
theorem rs_n : rs none = -1 := rfl
theorem wr_e {A bs : List Nat} {s : Nat} (h : s = A.length) : wr A s bs = A ++ bs := by rw [h, wr_end]
section MD
variable {d N : Nat} {I : Nat → Nat → Int32} {L : Nat → Nat → Int64} {w : Option Nat} {Q : am_Q} {A : List Nat}
theorem mT_0 {v : Int32} (hA : mT I A) : mT (am_u I 100 0 v) A := mT_k hA (fx_s (P := []) (S := [0]) (by decide)) (by decide) (by decide)
theorem f_0 {P S : List Nat} {v : Int32} (h : 0 ∈ S) : fx P S I (am_u I 100 0 v) := fx_s h
theorem c_183 (hA : mT I A) {a b c d' e : Int32} (hq : ∀ I', mT I' ((sp_feed A a b c d' e).getD A) → fx [112, 114] [0, 15, 23] I I' → Q (some (.int (rs (sp_feed A a b c d' e)))) (am_SH N, I', L, am_RR w)) : am_call (d + 3) 183 [.ref 100, .int a, .int b, .int c, .int d', .int e] (am_SH N, I, L, am_RR w) Q := by
  obtain ⟨g1, g2, g3⟩ := mT_0 (v := nI 0) hA
  unfold sp_feed at hq
  refine am_enter (ls := [some _, some _, some _, some _, some _, some _]) (cs := am_c183) rfl rfl (Nat.le_of_ble_eq_true rfl) rfl ?_
  refine wp_aload (k := 0) rfl rfl ?_
  refine w_ic (k := 1) (x := nI 0) rfl (oi_nI 0) ?_
  refine w_pi (k := 2) (s := 0) rfl rfl (by first | assumption | rfl) ?_
  refine wp_aload (k := 3) rfl rfl ?_
  refine w_gi (k := 4) (s := 15) rfl rfl (by first | assumption | rfl) (by first | assumption | rfl) ?_
  refine w_ic (k := 5) (x := nI 20) rfl (oi_nI 20) ?_
  refine w_addN (k := 6) rfl ?_
  refine w_ic (k := 7) (x := nI 400) rfl (oi_nI 400) ?_
  refine w_n_le (k := 8) (t' := 11) rfl rfl (by omega) (fun k => ?_) (fun k => ?_)
  · rw [if_pos k] at hq
    simp only [Option.getD_some, rs_s] at hq
    refine wp_aload (k := 11) rfl rfl ?_
    refine w_gr (k := 12) (s := 14) rfl rfl (by first | assumption | rfl) (by first | assumption | rfl) ?_
    refine wp_aload (k := 13) rfl rfl ?_
    refine w_gi (k := 14) (s := 15) rfl rfl (by first | assumption | rfl) (by first | assumption | rfl) ?_
    refine wp_iload (k := 15) rfl rfl ?_
    refine w_Sv (k := 16) [_, _, _] rfl rfl rfl (Nat.le_of_ble_eq_true rfl) (Or.inl ⟨rfl, rfl⟩) ?_
    refine (c_182 rfl (by decide) (by decide) g2 (Nat.le_refl _) (by omega) (fun I1 k1 f1 => ⟨rfl, ?_⟩))
    rw [wr_end] at k1
    have s1 : I1 100 15 = nI A.length := by rw [f1 100 (by decide)]; exact g1
    refine wp_aload (k := 17) rfl rfl ?_
    refine w_gr (k := 18) (s := 14) rfl rfl (by first | assumption | rfl) (by first | assumption | rfl) ?_
    refine wp_aload (k := 19) rfl rfl ?_
    refine w_gi (k := 20) (s := 15) rfl rfl (by first | assumption | rfl) (by first | assumption | rfl) ?_
    refine w_ic (k := 21) (x := nI 4) rfl (oi_nI 4) ?_
    refine w_addN (k := 22) rfl ?_
    refine wp_iload (k := 23) rfl rfl ?_
    refine w_Sv (k := 24) [_, _, _] rfl rfl rfl (Nat.le_of_ble_eq_true rfl) (Or.inl ⟨rfl, rfl⟩) ?_
    refine (c_182 rfl (by decide) (by decide) k1 (s := A.length + 4) (by simp [be_len]) (by omega) (fun I2 k2 f2 => ⟨rfl, ?_⟩))
    rw [wr_e (by simp [be_len])] at k2
    have s2 : I2 100 15 = nI A.length := by rw [f2 100 (by decide)]; exact s1
    refine wp_aload (k := 25) rfl rfl ?_
    refine w_gr (k := 26) (s := 14) rfl rfl (by first | assumption | rfl) (by first | assumption | rfl) ?_
    refine wp_aload (k := 27) rfl rfl ?_
    refine w_gi (k := 28) (s := 15) rfl rfl (by first | assumption | rfl) (by first | assumption | rfl) ?_
    refine w_ic (k := 29) (x := nI 8) rfl (oi_nI 8) ?_
    refine w_addN (k := 30) rfl ?_
    refine wp_iload (k := 31) rfl rfl ?_
    refine w_Sv (k := 32) [_, _, _] rfl rfl rfl (Nat.le_of_ble_eq_true rfl) (Or.inl ⟨rfl, rfl⟩) ?_
    refine (c_182 rfl (by decide) (by decide) k2 (s := A.length + 8) (by simp [be_len]) (by omega) (fun I3 k3 f3 => ⟨rfl, ?_⟩))
    rw [wr_e (by simp [be_len])] at k3
    have s3 : I3 100 15 = nI A.length := by rw [f3 100 (by decide)]; exact s2
    refine wp_aload (k := 33) rfl rfl ?_
    refine w_gr (k := 34) (s := 14) rfl rfl (by first | assumption | rfl) (by first | assumption | rfl) ?_
    refine wp_aload (k := 35) rfl rfl ?_
    refine w_gi (k := 36) (s := 15) rfl rfl (by first | assumption | rfl) (by first | assumption | rfl) ?_
    refine w_ic (k := 37) (x := nI 12) rfl (oi_nI 12) ?_
    refine w_addN (k := 38) rfl ?_
    refine wp_iload (k := 39) rfl rfl ?_
    refine w_Sv (k := 40) [_, _, _] rfl rfl rfl (Nat.le_of_ble_eq_true rfl) (Or.inl ⟨rfl, rfl⟩) ?_
    refine (c_182 rfl (by decide) (by decide) k3 (s := A.length + 12) (by simp [be_len]) (by omega) (fun I4 k4 f4 => ⟨rfl, ?_⟩))
    rw [wr_e (by simp [be_len])] at k4
    have s4 : I4 100 15 = nI A.length := by rw [f4 100 (by decide)]; exact s3
    refine wp_aload (k := 41) rfl rfl ?_
    refine w_gr (k := 42) (s := 14) rfl rfl (by first | assumption | rfl) (by first | assumption | rfl) ?_
    refine wp_aload (k := 43) rfl rfl ?_
    refine w_gi (k := 44) (s := 15) rfl rfl (by first | assumption | rfl) (by first | assumption | rfl) ?_
    refine w_ic (k := 45) (x := nI 16) rfl (oi_nI 16) ?_
    refine w_addN (k := 46) rfl ?_
    refine wp_iload (k := 47) rfl rfl ?_
    refine w_Sv (k := 48) [_, _, _] rfl rfl rfl (Nat.le_of_ble_eq_true rfl) (Or.inl ⟨rfl, rfl⟩) ?_
    refine (c_182 rfl (by decide) (by decide) k4 (s := A.length + 16) (by simp [be_len]) (by omega) (fun I5 k5 f5 => ⟨rfl, ?_⟩))
    rw [wr_e (by simp [be_len])] at k5
    simp only [List.append_assoc] at k5
    have s5 : I5 100 15 = nI A.length := by rw [f5 100 (by decide)]; exact s4
    refine wp_aload (k := 49) rfl rfl ?_
    refine wp_dup (k := 50) rfl rfl ?_
    refine w_gi (k := 51) (s := 15) rfl rfl (by first | assumption | rfl) (by first | assumption | rfl) ?_
    refine w_ic (k := 52) (x := nI 20) rfl (oi_nI 20) ?_
    refine w_addN (k := 53) rfl ?_
    refine w_pi (k := 54) (s := 15) rfl rfl (by first | assumption | rfl) ?_
    refine wp_aload (k := 55) rfl rfl ?_
    refine w_gi (k := 56) (s := 15) rfl rfl (by first | assumption | rfl) am_us ?_
    refine w_ri (k := 57) rfl rfl rfl rfl ?_
    have hl : (A ++ (be 4 (uI a) ++ (be 4 (uI b) ++ (be 4 (uI c) ++ (be 4 (uI d') ++ be 4 (uI e)))))).length = A.length + 20 := by simp [be_len]
    rw [hl] at hq
    refine hq (am_u I5 100 15 (nI (A.length + 20))) ⟨by rw [am_us, hl], av_keep k5 (am_uR (by decide)), by rw [hl]; exact k⟩ (fx_t (fx_t (f_0 (v := nI 0) (by decide)) (fx_a (a := 112) (fun x hx => by rw [f5 x hx, f4 x hx, f3 x hx, f2 x hx, f1 x hx]) (by decide) (by decide))) (fx_s (by decide)))
  · rw [if_neg (by omega)] at hq
    refine w_ic (k := 9) (x := (-1)) rfl (by decide) ?_
    refine w_ri (k := 10) rfl rfl rfl rfl ?_
    exact hq _ ⟨g1, g2, g3⟩ (f_0 (by decide))
theorem c_184 (hA : mT I A) {n : Int32} (hq : ∀ I', mT I' ((sp_end A n).getD A) → fx [112, 114] [0, 15, 23] I I' → Q (some (.int (rs (sp_end A n)))) (am_SH N, I', L, am_RR w)) : am_call (d + 1) 184 [.ref 100, .int n] (am_SH N, I, L, am_RR w) Q := by
  obtain ⟨g1, g2, g3⟩ := id (mT_0 (v := nI 0) hA)
  have no : ∀ ls, n < 0 ∨ nI A.length < n → am_V 184 am_c184 d (am_SH N) Q 9 ls [] (am_SH N, am_u I 100 0 (nI 0), L, am_RR w) := by
    intro ls h
    unfold sp_end at hq
    rw [if_pos h] at hq
    refine w_ic (k := 9) (x := (-1)) rfl (by decide) ?_
    refine w_ri (k := 10) rfl rfl rfl rfl ?_
    exact hq _ ⟨g1, g2, g3⟩ (f_0 (by decide))
  refine am_enter (ls := [some _, some _]) (cs := am_c184) rfl rfl (Nat.le_of_ble_eq_true rfl) rfl ?_
  refine wp_aload (k := 0) rfl rfl ?_
  refine w_ic (k := 1) (x := nI 0) rfl (oi_nI 0) ?_
  refine w_pi (k := 2) (s := 0) rfl rfl (by first | assumption | rfl) ?_
  refine wp_iload (k := 3) rfl rfl ?_
  refine w_z_lt (k := 4) (t' := 9) rfl rfl (fun k1 => ?_) (fun k1 => ?_)
  · exact no _ (Or.inl k1)
  · refine wp_iload (k := 5) rfl rfl ?_
    refine wp_aload (k := 6) rfl rfl ?_
    refine w_gi (k := 7) (s := 15) rfl rfl (by first | assumption | rfl) (by first | assumption | rfl) ?_
    refine w_c_le (k := 8) (t' := 11) rfl rfl (fun k2 => ?_) (fun k2 => ?_)
    · obtain ⟨j, hj, rfl⟩ := nI_of k1
      have hj2 := (nI_leI (by omega) (by omega)).mp k2
      unfold sp_end at hq
      rw [if_neg (fun q => q.elim k1 (nI_nlt hj2 (by omega))), nI_clamp (by omega)] at hq
      have hl : (A.take j).length = j := by simp; omega
      simp only [Option.getD_some, rs_s, hl] at hq
      refine wp_aload (k := 11) rfl rfl ?_
      refine wp_iload (k := 12) rfl rfl ?_
      refine w_pi (k := 13) (s := 15) rfl rfl (by first | assumption | rfl) ?_
      refine wp_iload (k := 14) rfl rfl ?_
      refine w_ri (k := 15) rfl rfl rfl rfl ?_
      exact hq (am_u (am_u I 100 0 (nI 0)) 100 15 (nI j)) ⟨by rw [am_us, hl], av_keep (av_take g2) (am_uR (by decide)), by omega⟩ (fx_t (f_0 (by decide)) (fx_s (by decide)))
    · exact no _ (Or.inr (Int32.not_le.mp k2))
theorem c_185 (hA : mT I A) {t x y z : Int32} (hq : ∀ I', mT I' ((sp_msg t x y z).getD A) → fx [112, 114] [0, 15, 23] I I' → Q (some (.int (rs (sp_msg t x y z)))) (am_SH N, I', L, am_RR w)) : am_call (d + 3) 185 [.ref 100, .int t, .int x, .int y, .int z] (am_SH N, I, L, am_RR w) Q := by
  obtain ⟨g1, g2, g3⟩ := id (mT_0 (v := nI 0) hA)
  unfold sp_msg at hq
  refine am_enter (ls := [some _, some _, some _, some _, some _]) (cs := am_c185) rfl rfl (Nat.le_of_ble_eq_true rfl) rfl ?_
  refine wp_aload (k := 0) rfl rfl ?_
  refine w_ic (k := 1) (x := nI 0) rfl (oi_nI 0) ?_
  refine w_pi (k := 2) (s := 0) rfl rfl (by first | assumption | rfl) ?_
  refine wp_iload (k := 3) rfl rfl ?_
  refine wp_i2l (k := 4) rfl ?_
  refine w_lc (k := 5) (x := lN 0) rfl (ol_lN 0) ?_
  refine w_lc (k := 6) (x := lN 16383) rfl (ol_lN 16383) ?_
  refine w_Si (k := 7) [_, _, _] rfl rfl rfl (Nat.le_of_ble_eq_true rfl) (Or.inl ⟨rfl, rfl⟩) ?_
  refine (c_166 ?_)
  refine ⟨_, rfl, ?_⟩
  rw [show decide (lN 0 ≤ t.toInt64 ∧ t.toInt64 ≤ lN 16383) = decide (¬ t < 0 ∧ ¬ nI 16383 < t) from decide_eq_decide.mpr (in_kd t (by decide) (by decide))]
  refine w_b_ne (k := 8) (t' := 11) rfl rfl (fun k1 => ?_) (fun k1 => ?_)
  · have k1 := of_decide_eq_true k1
    rw [if_neg (fun q => q.elim k1.1 k1.2)] at hq
    have z0 : av (am_u I 100 0 (nI 0)) 112 [] := ⟨fun i hi => absurd hi (Nat.not_lt_zero i), fun c hc => by cases hc⟩
    simp only [Option.getD_some, rs_s] at hq
    refine wp_aload (k := 11) rfl rfl ?_
    refine w_gr (k := 12) (s := 14) rfl rfl (by first | assumption | rfl) (by first | assumption | rfl) ?_
    refine w_ic (k := 13) (x := nI 0) rfl (oi_nI 0) ?_
    refine wp_iload (k := 14) rfl rfl ?_
    refine w_Sv (k := 15) [_, _, _] rfl rfl rfl (Nat.le_of_ble_eq_true rfl) (Or.inl ⟨rfl, rfl⟩) ?_
    refine (c_181 rfl (by decide) (by decide) z0 (s := 0) (by decide) (by decide) (fun I1 k1 f1 => ⟨rfl, ?_⟩))
    rw [wr_e (A := []) (s := 0) rfl, List.nil_append] at k1
    refine wp_aload (k := 16) rfl rfl ?_
    refine w_gr (k := 17) (s := 14) rfl rfl (by first | assumption | rfl) (by first | assumption | rfl) ?_
    refine w_ic (k := 18) (x := nI 2) rfl (oi_nI 2) ?_
    refine w_ic (k := 19) (x := nI 0) rfl (oi_nI 0) ?_
    refine w_Sv (k := 20) [_, _, _] rfl rfl rfl (Nat.le_of_ble_eq_true rfl) (Or.inl ⟨rfl, rfl⟩) ?_
    refine (c_181 rfl (by decide) (by decide) k1 (s := 2) (by simp [be_len]) (by decide) (fun I2 k2 f2 => ⟨rfl, ?_⟩))
    rw [wr_e (by simp [be_len])] at k2
    refine wp_aload (k := 21) rfl rfl ?_
    refine w_gr (k := 22) (s := 14) rfl rfl (by first | assumption | rfl) (by first | assumption | rfl) ?_
    refine w_ic (k := 23) (x := nI 4) rfl (oi_nI 4) ?_
    refine w_ic (k := 24) (x := nI 554869826) rfl (oi_nI 554869826) ?_
    refine w_Sv (k := 25) [_, _, _] rfl rfl rfl (Nat.le_of_ble_eq_true rfl) (Or.inl ⟨rfl, rfl⟩) ?_
    refine (c_182 rfl (by decide) (by decide) k2 (s := 4) (by simp [be_len]) (by decide) (fun I3 k3 f3 => ⟨rfl, ?_⟩))
    rw [wr_e (by simp [be_len])] at k3
    refine wp_aload (k := 26) rfl rfl ?_
    refine w_gr (k := 27) (s := 14) rfl rfl (by first | assumption | rfl) (by first | assumption | rfl) ?_
    refine w_ic (k := 28) (x := nI 8) rfl (oi_nI 8) ?_
    refine wp_iload (k := 29) rfl rfl ?_
    refine w_Sv (k := 30) [_, _, _] rfl rfl rfl (Nat.le_of_ble_eq_true rfl) (Or.inl ⟨rfl, rfl⟩) ?_
    refine (c_182 rfl (by decide) (by decide) k3 (s := 8) (by simp [be_len]) (by decide) (fun I4 k4 f4 => ⟨rfl, ?_⟩))
    rw [wr_e (by simp [be_len])] at k4
    refine wp_aload (k := 31) rfl rfl ?_
    refine w_gr (k := 32) (s := 14) rfl rfl (by first | assumption | rfl) (by first | assumption | rfl) ?_
    refine w_ic (k := 33) (x := nI 12) rfl (oi_nI 12) ?_
    refine wp_iload (k := 34) rfl rfl ?_
    refine w_Sv (k := 35) [_, _, _] rfl rfl rfl (Nat.le_of_ble_eq_true rfl) (Or.inl ⟨rfl, rfl⟩) ?_
    refine (c_182 rfl (by decide) (by decide) k4 (s := 12) (by simp [be_len]) (by decide) (fun I5 k5 f5 => ⟨rfl, ?_⟩))
    rw [wr_e (by simp [be_len])] at k5
    refine wp_aload (k := 36) rfl rfl ?_
    refine w_gr (k := 37) (s := 14) rfl rfl (by first | assumption | rfl) (by first | assumption | rfl) ?_
    refine w_ic (k := 38) (x := nI 16) rfl (oi_nI 16) ?_
    refine wp_iload (k := 39) rfl rfl ?_
    refine w_Sv (k := 40) [_, _, _] rfl rfl rfl (Nat.le_of_ble_eq_true rfl) (Or.inl ⟨rfl, rfl⟩) ?_
    refine (c_182 rfl (by decide) (by decide) k5 (s := 16) (by simp [be_len]) (by decide) (fun I6 k6 f6 => ⟨rfl, ?_⟩))
    rw [wr_e (by simp [be_len])] at k6
    have k6 : av I6 112 (hd20 (uI t) (uI x) (uI y) (uI z)) := k6
    refine wp_aload (k := 41) rfl rfl ?_
    refine w_ic (k := 42) (x := nI 20) rfl (oi_nI 20) ?_
    refine w_pi (k := 43) (s := 15) rfl rfl (by first | assumption | rfl) ?_
    refine w_ic (k := 44) (x := nI 20) rfl (oi_nI 20) ?_
    refine w_ri (k := 45) rfl rfl rfl rfl ?_
    rw [hd20_len] at hq
    refine hq (am_u I6 100 15 (nI 20)) ⟨by rw [am_us, hd20_len], av_keep k6 (am_uR (by decide)), by rw [hd20_len]; decide⟩ (fx_t (fx_t (f_0 (v := nI 0) (by decide)) (fx_a (a := 112) (fun x hx => by rw [f6 x hx, f5 x hx, f4 x hx, f3 x hx, f2 x hx, f1 x hx]) (by decide) (by decide))) (fx_s (by decide)))
  · have k1 := of_decide_eq_false k1
    rw [if_pos (Classical.not_not.mp (fun q => k1 ⟨fun a => q (Or.inl a), fun a => q (Or.inr a)⟩))] at hq
    refine w_ic (k := 9) (x := (-1)) rfl (by decide) ?_
    refine w_ri (k := 10) rfl rfl rfl rfl ?_
    exact hq _ ⟨g1, g2, g3⟩ (f_0 (by decide))
theorem hz_len {A : List Nat} (h : 20 ≤ A.length) (kd m : Nat) : (hd_ A kd m ++ List.replicate (pad4 m) 0).length = A.length + 4 + pad4 m := by
  rw [List.length_append, hd_len (by omega), List.length_replicate]
theorem c_187 (hA : mT I A) {kd sz v : Int32} (hq : ∀ I', mT I' ((sp_num A kd sz v).getD A) → fx [112, 114] [0, 15, 23] I I' → Q (some (.int (rs (sp_num A kd sz v)))) (am_SH N, I', L, am_RR w)) : am_call (d + 3) 187 [.ref 100, .int kd, .int sz, .int v] (am_SH N, I, L, am_RR w) Q := by
  have gA := mT_0 (v := nI 0) hA
  have no : ∀ ls, sp_num A kd sz v = none → am_V 187 am_c187 (d + 2) (am_SH N) Q 14 ls [] (am_SH N, am_u I 100 0 (nI 0), L, am_RR w) := by
    intro ls h
    rw [h] at hq
    refine w_ic (k := 14) (x := (-1)) rfl (by decide) ?_
    refine w_ri (k := 15) rfl rfl rfl rfl ?_
    exact hq _ gA (f_0 (by decide))
  unfold sp_num at no hq
  refine am_enter (ls := [some _, some _, some _, some _, none, none]) (cs := am_c187) rfl rfl (Nat.le_of_ble_eq_true rfl) rfl ?_
  refine wp_aload (k := 0) rfl rfl ?_
  refine w_ic (k := 1) (x := nI 0) rfl (oi_nI 0) ?_
  refine w_pi (k := 2) (s := 0) rfl rfl (by first | assumption | rfl) ?_
  refine wp_iload (k := 3) rfl rfl ?_
  refine wp_i2l (k := 4) rfl ?_
  refine w_lc (k := 5) (x := lN 0) rfl (ol_lN 0) ?_
  refine w_lc (k := 6) (x := lN 4) rfl (ol_lN 4) ?_
  refine w_Si (k := 7) [_, _, _] rfl rfl rfl (Nat.le_of_ble_eq_true rfl) (Or.inl ⟨rfl, rfl⟩) ?_
  refine (c_166 ?_)
  refine ⟨_, rfl, ?_⟩
  rw [show decide (lN 0 ≤ sz.toInt64 ∧ sz.toInt64 ≤ lN 4) = decide (¬ sz < 0 ∧ ¬ nI 4 < sz) from decide_eq_decide.mpr (in_kd sz (by decide) (by decide))]
  refine w_b_eq (k := 8) (t' := 14) rfl rfl (fun k1 => ?_) (fun k1 => ?_)
  · have k1 := of_decide_eq_false k1
    exact no _ (if_pos (Classical.not_not.mp (fun q => k1 ⟨fun a => q (Or.inl a), fun a => q (Or.inr a)⟩)))
  · have k1 := of_decide_eq_true k1
    obtain ⟨j, hj, rfl⟩ := nI_of k1.1
    have hj2 : j ≤ 4 := (nI_leI (by omega) (by decide)).mp (Int32.not_lt.mp k1.2)
    rw [if_neg (fun q => q.elim k1.1 k1.2), nI_clamp (by omega)] at hq no
    have hp := pad4_ge j
    refine wp_aload (k := 9) rfl rfl ?_
    refine wp_iload (k := 10) rfl rfl ?_
    refine wp_iload (k := 11) rfl rfl ?_
    refine w_Vi (k := 12) [_, _] rfl rfl rfl (Nat.le_of_ble_eq_true rfl) (by first | assumption | rfl) (Or.inl ⟨rfl, rfl⟩) ?_
    refine (c_186 gA (by omega) (fun hf => ⟨_, rfl, ?_⟩) (fun ht I1 h1 f1 => ⟨_, rfl, ?_⟩))
    · refine w_b_ne (k := 13) (t' := 16) rfl rfl (fun q => absurd (q.symm.trans rfl) (by decide)) (fun q => ?_)
      exact no _ (if_neg (by rw [hf]; decide))
    · rw [if_pos ht] at hq
      simp only [Option.getD_some, rs_s] at hq
      obtain ⟨t1, t2⟩ := tk_room ht
      obtain ⟨i1, i2, i3⟩ := h1
      rw [hz_len t1] at i1
      refine w_b_ne (k := 13) (t' := 16) rfl rfl (fun q => ?_) (fun q => absurd (q.symm.trans rfl) (by decide))
      refine wp_aload (k := 16) rfl rfl ?_
      refine w_gi (k := 17) (s := 15) rfl rfl (by first | assumption | rfl) (by first | assumption | rfl) ?_
      refine wp_iload (k := 18) rfl rfl ?_
      refine w_ic (k := 19) (x := nI 3) rfl (oi_nI 3) ?_
      refine w_addN (k := 20) rfl ?_
      refine w_ic (k := 21) (x := nI 4) rfl (oi_nI 4) ?_
      refine wp_idiv (k := 22) rfl (by decide) ?_
      rw [pk_div (by omega) (by decide) (by decide)]
      refine w_ic (k := 23) (x := nI 4) rfl (oi_nI 4) ?_
      refine w_mulN (k := 24) rfl ?_
      refine w_subN (k := 25) rfl (by unfold pad4; omega) ?_
      rw [show A.length + 4 + pad4 j - (j + 3) / 4 * 4 = A.length + 4 by unfold pad4; omega]
      refine wp_istore (k := 26) rfl rfl ?_
      refine w_ic (k := 27) (x := nI 0) rfl (oi_nI 0) ?_
      refine wp_istore (k := 28) rfl rfl ?_
      have hX : A.length + 4 ≤ (hd_ A (uI kd) j ++ List.replicate (pad4 j) 0).length := by rw [hz_len t1]; omega
      have loop : ∀ (r i : Nat) (I2 : Nat → Nat → Int32), i + r = j → av I2 112 (wr (hd_ A (uI kd) j ++ List.replicate (pad4 j) 0) (A.length + 4) ((be j (uI v)).take i)) → (∀ x, x ≠ 112 → I2 x = I1 x) → am_V 187 am_c187 (d + 2) (am_SH N) Q 29 [some (.ref 100), some (.int kd), some (.int (nI j)), some (.int v), some (.int (nI (A.length + 4))), some (.int (nI i))] [] (am_SH N, I2, L, am_RR w) := by
        intro r
        induction r with
        | zero =>
          intro i I2 hi k2 f2
          rw [List.take_of_length_le (by rw [be_len]; omega), at_fill (by omega) (be_len _ _)] at k2
          have s2 : I2 100 15 = nI (A.length + 4 + pad4 j) := by rw [f2 100 (by decide)]; exact i1
          have hl : (at_ A (uI kd) (be j (uI v))).length = A.length + 4 + pad4 j := by rw [at_len (by omega), be_len]
          rw [hl] at hq
          refine wp_iload (k := 29) rfl rfl ?_
          refine wp_iload (k := 30) rfl rfl ?_
          refine w_n_ge (k := 31) (t' := 51) rfl rfl (by omega) (fun q => ?_) (fun q => absurd q (by omega))
          refine wp_aload (k := 51) rfl rfl ?_
          refine w_gi (k := 52) (s := 15) rfl rfl (by first | assumption | rfl) (by first | assumption | rfl) ?_
          refine w_ri (k := 53) rfl rfl rfl rfl ?_
          exact hq I2 ⟨by rw [hl]; exact s2, k2, by rw [hl]; exact t2⟩ (fx_t (fx_t (f_0 (v := nI 0) (by decide)) (fx_mo f1 (by decide) (by decide))) (fx_a (a := 112) f2 (by decide) (by decide)))
        | succ r ih =>
          intro i I2 hi k2 f2
          refine wp_iload (k := 29) rfl rfl ?_
          refine wp_iload (k := 30) rfl rfl ?_
          refine w_n_ge (k := 31) (t' := 51) rfl rfl (by omega) (fun q => absurd q (by omega)) (fun q => ?_)
          refine wp_aload (k := 32) rfl rfl ?_
          refine w_gr (k := 33) (s := 14) rfl rfl (by first | assumption | rfl) (by first | assumption | rfl) ?_
          refine wp_iload (k := 34) rfl rfl ?_
          refine wp_iload (k := 35) rfl rfl ?_
          refine w_addN (k := 36) rfl ?_
          refine wp_iload (k := 37) rfl rfl ?_
          refine w_ic (k := 38) (x := nI 8) rfl (oi_nI 8) ?_
          refine wp_iload (k := 39) rfl rfl ?_
          refine w_ic (k := 40) (x := nI 1) rfl (oi_nI 1) ?_
          refine w_subN (k := 41) rfl (by omega) ?_
          refine wp_iload (k := 42) rfl rfl ?_
          refine w_subN (k := 43) rfl (by omega) ?_
          refine w_mulN (k := 44) rfl ?_
          refine wp_ishr (k := 45) rfl ?_
          refine w_ic (k := 46) (x := nI 255) rfl (oi_nI 255) ?_
          refine wp_iand (k := 47) rfl ?_
          rw [i_sb v (n := 8 * (j - 1 - i)) (by omega), p28, ← be_get j (uI v) i (by omega)]
          refine w_iast (k := 48) rfl rfl (by omega) (by first | assumption | rfl) (by omega) ?_
          refine w_incN (k := 49) (m := 1) rfl (oi_nI 1) rfl ?_
          refine w_goto (k := 50) (t' := 29) rfl rfl ?_
          exact ih (i + 1) _ (by omega) (av_step k2 (by rw [be_len]; omega) hX (be_lt _ _)) (fun x hx => by rw [am_uR hx, f2 x hx])
      exact loop j 0 I1 (by omega) (by rw [List.take_zero, wr_nil]; exact i2) (fun _ _ => rfl)
theorem c_189 (hA : mT I A) {kd : Int32} {a b : Int64} (hq : ∀ I', mT I' ((sp_text A kd a b).getD A) → fx [112, 114] [0, 15, 23] I I' → Q (some (.int (rs (sp_text A kd a b)))) (am_SH N, I', L, am_RR w)) : am_call (d + 3) 189 [.ref 100, .int kd, .long a, .long b] (am_SH N, I, L, am_RR w) Q := by
  have gA := mT_0 (v := nI 0) hA
  have l1 := nz_len 8 (uN a)
  have l2 := nz_len 8 (uN b)
  unfold sp_text at hq
  refine am_enter (ls := [some _, some _, some _, none, some _, none, none, none]) (cs := am_c189) rfl rfl (Nat.le_of_ble_eq_true rfl) rfl ?_
  refine wp_aload (k := 0) rfl rfl ?_
  refine w_ic (k := 1) (x := nI 0) rfl (oi_nI 0) ?_
  refine w_pi (k := 2) (s := 0) rfl rfl (by first | assumption | rfl) ?_
  refine wp_aload (k := 3) rfl rfl ?_
  refine w_ic (k := 4) (x := nI 0) rfl (oi_nI 0) ?_
  refine w_pi (k := 5) (s := 23) rfl rfl (by first | assumption | rfl) ?_
  refine wp_aload (k := 6) rfl rfl ?_
  refine wp_lload (k := 7) rfl rfl ?_
  refine w_Vv (k := 8) [_] rfl rfl rfl (Nat.le_of_ble_eq_true rfl) (by first | assumption | rfl) (Or.inl ⟨rfl, rfl⟩) ?_
  refine (c_188 (A := []) ⟨by rw [am_us]; rfl, ⟨fun i hi => absurd hi (Nat.not_lt_zero i), fun c hc => by cases hc⟩⟩ (by decide) (fun I1 h1 e1 e2 => ⟨rfl, ?_⟩))
  rw [List.nil_append] at h1
  refine wp_aload (k := 9) rfl rfl ?_
  refine wp_lload (k := 10) rfl rfl ?_
  refine w_Vv (k := 11) [_] rfl rfl rfl (Nat.le_of_ble_eq_true rfl) (by first | assumption | rfl) (Or.inl ⟨rfl, rfl⟩) ?_
  refine (c_188 h1 (by omega) (fun I2 h2 e3 e4 => ⟨rfl, ?_⟩))
  have fA : fx [112, 114] [0, 15, 23] I I2 := by
    refine fx_t (fx_t (fx_t (f_0 (v := nI 0) (by decide)) (fx_s (s := 23) (v := nI 0) (by decide))) ⟨fun x h hx => e1 x h (by simp at hx; omega), fun s hs => e2 s (by simp at hs; omega)⟩) ⟨fun x h hx => e3 x h (by simp at hx; omega), fun s hs => e4 s (by simp at hs; omega)⟩
  have gA2 : mT I2 A := by
    obtain ⟨u1, u2, u3⟩ := gA
    refine ⟨?_, av_keep u2 ?_, u3⟩
    · rw [e4 15 (by decide), e2 15 (by decide), am_u_app, if_neg (by decide)]; exact u1
    · rw [e3 112 (by decide) (by decide), e1 112 (by decide) (by decide), am_uR (by decide)]
  obtain ⟨v1, v2⟩ := h2
  generalize hbs : nz 8 (uN a) ++ nz 8 (uN b) = bs at *
  have hbl : bs.length ≤ 16 := by rw [← hbs, List.length_append]; omega
  refine wp_aload (k := 12) rfl rfl ?_
  refine wp_iload (k := 13) rfl rfl ?_
  refine wp_aload (k := 14) rfl rfl ?_
  refine w_gi (k := 15) (s := 23) rfl rfl (by first | assumption | rfl) (by first | assumption | rfl) ?_
  refine w_Vi (k := 16) [_, _] rfl rfl rfl (Nat.le_of_ble_eq_true rfl) (by first | assumption | rfl) (Or.inl ⟨rfl, rfl⟩) ?_
  refine (c_186 gA2 (by omega) (fun hf => ⟨_, rfl, ?_⟩) (fun ht I3 h3 f3 => ⟨_, rfl, ?_⟩))
  · rw [if_neg (by rw [hf]; decide)] at hq
    refine w_b_ne (k := 17) (t' := 20) rfl rfl (fun q => absurd (q.symm.trans rfl) (by decide)) (fun q => ?_)
    refine w_ic (k := 18) (x := (-1)) rfl (by decide) ?_
    refine w_ri (k := 19) rfl rfl rfl rfl ?_
    exact hq I2 gA2 fA
  · rw [if_pos ht] at hq
    simp only [Option.getD_some, rs_s] at hq
    obtain ⟨t1, t2⟩ := tk_room ht
    obtain ⟨i1, i2, i3⟩ := h3
    rw [hz_len t1] at i1
    have hp := pad4_ge bs.length
    have w1 : I3 100 23 = nI bs.length := by rw [f3.2 23 (by decide)]; exact v1
    have w2 : av I3 114 bs := av_keep v2 (f3.1 114 (by decide) (by decide))
    refine w_b_ne (k := 17) (t' := 20) rfl rfl (fun q => ?_) (fun q => absurd (q.symm.trans rfl) (by decide))
    refine wp_aload (k := 20) rfl rfl ?_
    refine w_gi (k := 21) (s := 15) rfl rfl (by first | assumption | rfl) (by first | assumption | rfl) ?_
    refine wp_aload (k := 22) rfl rfl ?_
    refine w_gi (k := 23) (s := 23) rfl rfl (by first | assumption | rfl) (by first | assumption | rfl) ?_
    refine w_ic (k := 24) (x := nI 3) rfl (oi_nI 3) ?_
    refine w_addN (k := 25) rfl ?_
    refine w_ic (k := 26) (x := nI 4) rfl (oi_nI 4) ?_
    refine wp_idiv (k := 27) rfl (by decide) ?_
    rw [pk_div (by omega) (by decide) (by decide)]
    refine w_ic (k := 28) (x := nI 4) rfl (oi_nI 4) ?_
    refine w_mulN (k := 29) rfl ?_
    refine w_subN (k := 30) rfl (by unfold pad4; omega) ?_
    rw [show A.length + 4 + pad4 bs.length - (bs.length + 3) / 4 * 4 = A.length + 4 by unfold pad4; omega]
    refine wp_istore (k := 31) rfl rfl ?_
    refine w_ic (k := 32) (x := nI 0) rfl (oi_nI 0) ?_
    refine wp_istore (k := 33) rfl rfl ?_
    have hX : A.length + 4 ≤ (hd_ A (uI kd) bs.length ++ List.replicate (pad4 bs.length) 0).length := by rw [hz_len t1]; omega
    have loop : ∀ (r i : Nat) (I4 : Nat → Nat → Int32), i + r = bs.length → av I4 112 (wr (hd_ A (uI kd) bs.length ++ List.replicate (pad4 bs.length) 0) (A.length + 4) (bs.take i)) → (∀ x, x ≠ 112 → I4 x = I3 x) → am_V 189 am_c189 (d + 2) (am_SH N) Q 34 [some (.ref 100), some (.int kd), some (.long a), none, some (.long b), none, some (.int (nI (A.length + 4))), some (.int (nI i))] [] (am_SH N, I4, L, am_RR w) := by
      intro r
      induction r with
      | zero =>
        intro i I4 hi k4 f4
        rw [List.take_of_length_le (by omega), at_fill (by omega) rfl] at k4
        have s4 : I4 100 15 = nI (A.length + 4 + pad4 bs.length) := by rw [f4 100 (by decide)]; exact i1
        have s5 : I4 100 23 = nI bs.length := by rw [f4 100 (by decide)]; exact w1
        have hl : (at_ A (uI kd) bs).length = A.length + 4 + pad4 bs.length := at_len (by omega) _ _
        rw [hl] at hq
        refine wp_iload (k := 34) rfl rfl ?_
        refine wp_aload (k := 35) rfl rfl ?_
        refine w_gi (k := 36) (s := 23) rfl rfl (by first | assumption | rfl) (by first | assumption | rfl) ?_
        refine w_n_ge (k := 37) (t' := 50) rfl rfl (by omega) (fun q => ?_) (fun q => absurd q (by omega))
        refine wp_aload (k := 50) rfl rfl ?_
        refine w_gi (k := 51) (s := 15) rfl rfl (by first | assumption | rfl) (by first | assumption | rfl) ?_
        refine w_ri (k := 52) rfl rfl rfl rfl ?_
        exact hq I4 ⟨by rw [hl]; exact s4, k4, by rw [hl]; exact t2⟩ (fx_t (fx_t fA (fx_mo f3 (by decide) (by decide))) (fx_a (a := 112) f4 (by decide) (by decide)))
      | succ r ih =>
        intro i I4 hi k4 f4
        have s5 : I4 100 23 = nI bs.length := by rw [f4 100 (by decide)]; exact w1
        have s6 : I4 114 i = nI (bs.getD i 0) := by rw [f4 114 (by decide)]; exact w2.1 i (by omega)
        refine wp_iload (k := 34) rfl rfl ?_
        refine wp_aload (k := 35) rfl rfl ?_
        refine w_gi (k := 36) (s := 23) rfl rfl (by first | assumption | rfl) (by first | assumption | rfl) ?_
        refine w_n_ge (k := 37) (t' := 50) rfl rfl (by omega) (fun q => absurd q (by omega)) (fun q => ?_)
        refine wp_aload (k := 38) rfl rfl ?_
        refine w_gr (k := 39) (s := 14) rfl rfl (by first | assumption | rfl) (by first | assumption | rfl) ?_
        refine wp_iload (k := 40) rfl rfl ?_
        refine wp_iload (k := 41) rfl rfl ?_
        refine w_addN (k := 42) rfl ?_
        refine wp_aload (k := 43) rfl rfl ?_
        refine w_gr (k := 44) (s := 22) rfl rfl (by first | assumption | rfl) (by first | assumption | rfl) ?_
        refine wp_iload (k := 45) rfl rfl ?_
        refine w_iald (k := 46) rfl rfl (by first | assumption | rfl) (by omega) s6 ?_
        refine w_iast (k := 47) rfl rfl (by omega) (by first | assumption | rfl) (by omega) ?_
        refine w_incN (k := 48) (m := 1) rfl (oi_nI 1) rfl ?_
        refine w_goto (k := 49) (t' := 34) rfl rfl ?_
        exact ih (i + 1) _ (by omega) (av_step k4 (by omega) hX w2.2) (fun x hx => by rw [am_uR hx, f4 x hx])
    exact loop bs.length 0 I3 (by omega) (by rw [List.take_zero, wr_nil]; exact i2) (fun _ _ => rfl)
theorem c_190 (hA : mT I A) {kd : Int32} {v : Int64} (hq : ∀ I', mT I' ((sp_nonce A kd v).getD A) → fx [112, 114] [0, 15, 23] I I' → Q (some (.int (rs (sp_nonce A kd v)))) (am_SH N, I', L, am_RR w)) : am_call (d + 3) 190 [.ref 100, .int kd, .long v] (am_SH N, I, L, am_RR w) Q := by
  have gA := mT_0 (v := nI 0) hA
  unfold sp_nonce at hq
  refine am_enter (ls := [some _, some _, some _, none]) (cs := am_c190) rfl rfl (Nat.le_of_ble_eq_true rfl) rfl ?_
  refine wp_aload (k := 0) rfl rfl ?_
  refine w_ic (k := 1) (x := nI 0) rfl (oi_nI 0) ?_
  refine w_pi (k := 2) (s := 0) rfl rfl (by first | assumption | rfl) ?_
  refine wp_aload (k := 3) rfl rfl ?_
  refine wp_iload (k := 4) rfl rfl ?_
  refine w_ic (k := 5) (x := nI 8) rfl (oi_nI 8) ?_
  refine w_Vi (k := 6) [_, _] rfl rfl rfl (Nat.le_of_ble_eq_true rfl) (by first | assumption | rfl) (Or.inl ⟨rfl, rfl⟩) ?_
  refine (c_186 gA (by decide) (fun hf => ⟨_, rfl, ?_⟩) (fun ht I1 h1 f1 => ⟨_, rfl, ?_⟩))
  · rw [if_neg (by rw [hf]; decide)] at hq
    refine w_b_ne (k := 7) (t' := 10) rfl rfl (fun q => absurd (q.symm.trans rfl) (by decide)) (fun q => ?_)
    refine w_ic (k := 8) (x := (-1)) rfl (by decide) ?_
    refine w_ri (k := 9) rfl rfl rfl rfl ?_
    exact hq _ gA (f_0 (by decide))
  · rw [if_pos ht] at hq
    simp only [Option.getD_some, rs_s] at hq
    obtain ⟨t1, t2⟩ := tk_room ht
    obtain ⟨i1, i2, i3⟩ := h1
    rw [hz_len t1, show pad4 8 = 8 from rfl] at i1
    have hX : A.length + 4 ≤ (hd_ A (uI kd) 8 ++ List.replicate (pad4 8) 0).length := by rw [hz_len t1]; omega
    have e1 : A.length + 4 + 8 - 8 = A.length + 4 := by omega
    have e2 : A.length + 4 + 8 - 4 = A.length + 8 := by omega
    have t2 : A.length + 4 + 8 ≤ 400 := t2
    refine w_b_ne (k := 7) (t' := 10) rfl rfl (fun q => ?_) (fun q => absurd (q.symm.trans rfl) (by decide))
    refine wp_aload (k := 10) rfl rfl ?_
    refine w_gr (k := 11) (s := 14) rfl rfl (by first | assumption | rfl) (by first | assumption | rfl) ?_
    refine wp_aload (k := 12) rfl rfl ?_
    refine w_gi (k := 13) (s := 15) rfl rfl (by first | assumption | rfl) (by first | assumption | rfl) ?_
    refine w_ic (k := 14) (x := nI 8) rfl (oi_nI 8) ?_
    refine w_subN (k := 15) rfl (by omega) ?_
    rw [e1]
    refine wp_lload (k := 16) rfl rfl ?_
    refine w_ic (k := 17) (x := nI 32) rfl (oi_nI 32) ?_
    refine wp_lshr (k := 18) rfl ?_
    refine wp_l2i (k := 19) rfl ?_
    refine w_Sv (k := 20) [_, _, _] rfl rfl rfl (Nat.le_of_ble_eq_true rfl) (Or.inl ⟨rfl, rfl⟩) ?_
    refine (c_182 rfl (by decide) (by decide) i2 hX (by omega) (fun I2 k2 f2 => ⟨rfl, ?_⟩))
    have s2 : I2 100 15 = nI (A.length + 4 + 8) := by rw [f2 100 (by decide)]; exact i1
    refine wp_aload (k := 21) rfl rfl ?_
    refine w_gr (k := 22) (s := 14) rfl rfl (by first | assumption | rfl) (by first | assumption | rfl) ?_
    refine wp_aload (k := 23) rfl rfl ?_
    refine w_gi (k := 24) (s := 15) rfl rfl (by first | assumption | rfl) (by first | assumption | rfl) ?_
    refine w_ic (k := 25) (x := nI 4) rfl (oi_nI 4) ?_
    refine w_subN (k := 26) rfl (by omega) ?_
    rw [e2]
    refine wp_lload (k := 27) rfl rfl ?_
    refine wp_l2i (k := 28) rfl ?_
    refine w_Sv (k := 29) [_, _, _] rfl rfl rfl (Nat.le_of_ble_eq_true rfl) (Or.inl ⟨rfl, rfl⟩) ?_
    refine (c_182 rfl (by decide) (by decide) k2 (by rw [wr_len hX, be_len]; omega) (by omega) (fun I3 k3 f3 => ⟨rfl, ?_⟩))
    rw [wr_wr hX (by rw [be_len]), be8, at_fill (by omega) (be_len _ _)] at k3
    have s3 : I3 100 15 = nI (A.length + 4 + 8) := by rw [f3 100 (by decide)]; exact s2
    have hl : (at_ A (uI kd) (be 8 (uN v))).length = A.length + 4 + 8 := by rw [at_len (by omega), be_len]; rfl
    rw [hl] at hq
    refine wp_aload (k := 30) rfl rfl ?_
    refine w_gi (k := 31) (s := 15) rfl rfl (by first | assumption | rfl) (by first | assumption | rfl) ?_
    refine w_ri (k := 32) rfl rfl rfl rfl ?_
    exact hq I3 ⟨by rw [hl]; exact s3, k3, by rw [hl]; exact t2⟩ (fx_t (fx_t (f_0 (v := nI 0) (by decide)) (fx_mo f1 (by decide) (by decide))) (fx_a (a := 112) (fun x hx => by rw [f3 x hx, f2 x hx]) (by decide) (by decide)))
theorem c_191 (hA : mT I A) {kd ip port : Int32} (hq : ∀ I', mT I' ((sp_addr A kd ip port).getD A) → fx [112, 114] [0, 15, 23] I I' → Q (some (.int (rs (sp_addr A kd ip port)))) (am_SH N, I', L, am_RR w)) : am_call (d + 4) 191 [.ref 100, .int kd, .int ip, .int port] (am_SH N, I, L, am_RR w) Q := by
  have gA := mT_0 (v := nI 0) hA
  have no : ∀ ls, sp_addr A kd ip port = none → am_V 191 am_c191 (d + 3) (am_SH N) Q 14 ls [] (am_SH N, am_u I 100 0 (nI 0), L, am_RR w) := by
    intro ls h
    rw [h] at hq
    refine w_ic (k := 14) (x := (-1)) rfl (by decide) ?_
    refine w_ri (k := 15) rfl rfl rfl rfl ?_
    exact hq _ gA (f_0 (by decide))
  unfold sp_addr at no hq
  refine am_enter (ls := [some _, some _, some _, some _]) (cs := am_c191) rfl rfl (Nat.le_of_ble_eq_true rfl) rfl ?_
  refine wp_aload (k := 0) rfl rfl ?_
  refine w_ic (k := 1) (x := nI 0) rfl (oi_nI 0) ?_
  refine w_pi (k := 2) (s := 0) rfl rfl (by first | assumption | rfl) ?_
  refine wp_iload (k := 3) rfl rfl ?_
  refine wp_i2l (k := 4) rfl ?_
  refine w_lc (k := 5) (x := lN 0) rfl (ol_lN 0) ?_
  refine w_lc (k := 6) (x := lN 65535) rfl (ol_lN 65535) ?_
  refine w_Si (k := 7) [_, _, _] rfl rfl rfl (Nat.le_of_ble_eq_true rfl) (Or.inl ⟨rfl, rfl⟩) ?_
  refine (c_166 ?_)
  refine ⟨_, rfl, ?_⟩
  rw [show decide (lN 0 ≤ port.toInt64 ∧ port.toInt64 ≤ lN 65535) = decide (¬ port < 0 ∧ ¬ nI 65535 < port) from decide_eq_decide.mpr (in_kd port (by decide) (by decide))]
  refine w_b_eq (k := 8) (t' := 14) rfl rfl (fun k1 => ?_) (fun k1 => ?_)
  · have k1 := of_decide_eq_false k1
    exact no _ (if_pos (Classical.not_not.mp (fun q => k1 ⟨fun a => q (Or.inl a), fun a => q (Or.inr a)⟩)))
  · have k1 := of_decide_eq_true k1
    rw [if_neg (fun q => q.elim k1.1 k1.2)] at hq no
    refine wp_aload (k := 9) rfl rfl ?_
    refine wp_iload (k := 10) rfl rfl ?_
    refine w_ic (k := 11) (x := nI 8) rfl (oi_nI 8) ?_
    refine w_Vi (k := 12) [_, _] rfl rfl rfl (Nat.le_of_ble_eq_true rfl) (by first | assumption | rfl) (Or.inl ⟨rfl, rfl⟩) ?_
    refine (c_186 gA (by decide) (fun hf => ⟨_, rfl, ?_⟩) (fun ht I1 h1 f1 => ⟨_, rfl, ?_⟩))
    · refine w_b_ne (k := 13) (t' := 16) rfl rfl (fun q => absurd (q.symm.trans rfl) (by decide)) (fun q => ?_)
      exact no _ (if_neg (by rw [hf]; decide))
    · rw [if_pos ht] at hq
      simp only [Option.getD_some, rs_s] at hq
      obtain ⟨t1, t2⟩ := tk_room ht
      obtain ⟨i1, i2, i3⟩ := h1
      rw [hz_len t1, show pad4 8 = 8 from rfl] at i1
      have hX : A.length + 4 ≤ (hd_ A (uI kd) 8 ++ List.replicate (pad4 8) 0).length := by rw [hz_len t1]; omega
      have t2 : A.length + 4 + 8 ≤ 400 := t2
      refine w_b_ne (k := 13) (t' := 16) rfl rfl (fun q => ?_) (fun q => absurd (q.symm.trans rfl) (by decide))
      refine wp_aload (k := 16) rfl rfl ?_
      refine w_gr (k := 17) (s := 14) rfl rfl (by first | assumption | rfl) (by first | assumption | rfl) ?_
      refine wp_aload (k := 18) rfl rfl ?_
      refine w_gi (k := 19) (s := 15) rfl rfl (by first | assumption | rfl) (by first | assumption | rfl) ?_
      refine w_ic (k := 20) (x := nI 8) rfl (oi_nI 8) ?_
      refine w_subN (k := 21) rfl (by omega) ?_
      rw [show A.length + 4 + 8 - 8 = A.length + 4 by omega]
      refine wp_iload (k := 22) rfl rfl ?_
      refine wp_iload (k := 23) rfl rfl ?_
      refine w_Sv (k := 24) [_, _, _, _] rfl rfl rfl (Nat.le_of_ble_eq_true rfl) (Or.inl ⟨rfl, rfl⟩) ?_
      refine (c_192 rfl (by decide) (by decide) i2 hX (by omega) (fun I2 k2 f2 => ⟨rfl, ?_⟩))
      have k2 : av I2 112 (wr (hd_ A (uI kd) 8 ++ List.replicate (pad4 8) 0) (A.length + 4) (adr ip port)) := k2
      rw [at_fill (by omega) (adr_len ip port)] at k2
      have s2 : I2 100 15 = nI (A.length + 4 + 8) := by rw [f2 100 (by decide)]; exact i1
      have hl : (at_ A (uI kd) (adr ip port)).length = A.length + 4 + 8 := by rw [at_len (by omega), adr_len]; rfl
      rw [hl] at hq
      refine wp_aload (k := 25) rfl rfl ?_
      refine w_gi (k := 26) (s := 15) rfl rfl (by first | assumption | rfl) (by first | assumption | rfl) ?_
      refine w_ri (k := 27) rfl rfl rfl rfl ?_
      exact hq I2 ⟨by rw [hl]; exact s2, k2, by rw [hl]; exact t2⟩ (fx_t (fx_t (f_0 (v := nI 0) (by decide)) (fx_mo f1 (by decide) (by decide))) (fx_a (a := 112) f2 (by decide) (by decide)))
theorem c_196 (hA : mT I A) {i : Int32} (hq : ∀ I', mT I' A → fx [112, 114] [0, 15, 23] I I' → Q (some (.int (byA A i))) (am_SH N, I', L, am_RR w)) : am_call (d + 1) 196 [.ref 100, .int i] (am_SH N, I, L, am_RR w) Q := by
  have gA := mT_0 (v := nI 0) hA
  obtain ⟨g1, g2, g3⟩ := id gA
  have hq := hq _ gA (f_0 (by decide))
  refine am_enter (ls := [some _, some _]) (cs := am_c196) rfl rfl (Nat.le_of_ble_eq_true rfl) rfl ?_
  refine wp_aload (k := 0) rfl rfl ?_
  refine w_ic (k := 1) (x := nI 0) rfl (oi_nI 0) ?_
  refine w_pi (k := 2) (s := 0) rfl rfl (by first | assumption | rfl) ?_
  refine wp_iload (k := 3) rfl rfl ?_
  refine w_z_lt (k := 4) (t' := 14) rfl rfl (fun c1 => ?_) (fun c1 => ?_)
  · refine w_ic (k := 14) (x := (-1)) rfl (by decide) ?_
    refine w_ri (k := 15) rfl rfl rfl rfl ?_
    unfold byA at hq
    rw [if_pos (Or.inl c1)] at hq
    exact hq
  · refine wp_iload (k := 5) rfl rfl ?_
    refine wp_aload (k := 6) rfl rfl ?_
    refine w_gi (k := 7) (s := 15) rfl rfl (by first | assumption | rfl) (by first | assumption | rfl) ?_
    refine w_c_ge (k := 8) (t' := 14) rfl rfl (fun c2 => ?_) (fun c2 => ?_)
    · refine w_ic (k := 14) (x := (-1)) rfl (by decide) ?_
      refine w_ri (k := 15) rfl rfl rfl rfl ?_
      unfold byA at hq
      rw [if_pos (Or.inr c2)] at hq
      exact hq
    · obtain ⟨j, hj, rfl⟩ := nI_of c1
      have hj2 : j < A.length := by
        rcases Nat.lt_or_ge j A.length with q | q
        · exact q
        · exact absurd (nI_le q hj) c2
      rw [byA_n hj2 (by omega)] at hq
      refine wp_aload (k := 9) rfl rfl ?_
      refine w_gr (k := 10) (s := 14) rfl rfl (by first | assumption | rfl) (by first | assumption | rfl) ?_
      refine wp_iload (k := 11) rfl rfl ?_
      refine w_iald (k := 12) rfl rfl (by first | assumption | rfl) (by omega) (g2.1 j hj2) ?_
      refine w_goto (k := 13) (t' := 15) rfl rfl ?_
      refine w_ri (k := 15) rfl rfl rfl rfl ?_
      exact hq
theorem av_set {I : Nat → Nat → Int32} {a j c : Nat} {A : List Nat} (h : av I a A) (hj : j < A.length) (hc : c < 256) : av (am_u I a j (nI c)) a (A.set j c) := by
  refine ⟨fun i hi => ?_, fun x hx => ?_⟩
  · have hi : i < A.length := by simpa using hi
    rw [am_u_app, List.getD_eq_getElem?_getD, List.getElem?_set]
    by_cases e : i = j
    · subst e
      rw [if_pos ⟨rfl, rfl⟩]
      simp [hj]
    · rw [if_neg (fun q => e q.2), if_neg (fun q => e q.symm), h.1 i hi, List.getD_eq_getElem?_getD]
  · rcases List.mem_or_eq_of_mem_set hx with q | q
    · exact h.2 x q
    · omega
theorem c_197 (hA : mT I A) {i m : Int32} (hq : ∀ I', mT I' ((sp_alt A i m).getD A) → fx [112, 114] [0, 15, 23] I I' → Q (some (.int (rs_alt A i m))) (am_SH N, I', L, am_RR w)) : am_call (d + 2) 197 [.ref 100, .int i, .int m] (am_SH N, I, L, am_RR w) Q := by
  have gA := mT_0 (v := nI 0) hA
  obtain ⟨g1, g2, g3⟩ := id gA
  have no : ∀ ls, (i < 0 ∨ nI A.length ≤ i ∨ m < nI 1 ∨ nI 255 < m) → am_V 197 am_c197 (d + 1) (am_SH N) Q 15 ls [] (am_SH N, am_u I 100 0 (nI 0), L, am_RR w) := by
    intro ls h
    unfold rs_alt sp_alt at hq
    rw [if_pos h] at hq
    refine w_ic (k := 15) (x := (-1)) rfl (by decide) ?_
    refine w_ri (k := 16) rfl rfl rfl rfl ?_
    exact hq _ gA (f_0 (by decide))
  refine am_enter (ls := [some _, some _, some _]) (cs := am_c197) rfl rfl (Nat.le_of_ble_eq_true rfl) rfl ?_
  refine wp_aload (k := 0) rfl rfl ?_
  refine w_ic (k := 1) (x := nI 0) rfl (oi_nI 0) ?_
  refine w_pi (k := 2) (s := 0) rfl rfl (by first | assumption | rfl) ?_
  refine wp_iload (k := 3) rfl rfl ?_
  refine w_z_lt (k := 4) (t' := 15) rfl rfl (fun k1 => ?_) (fun k1 => ?_)
  · exact no _ (Or.inl k1)
  · refine wp_iload (k := 5) rfl rfl ?_
    refine wp_aload (k := 6) rfl rfl ?_
    refine w_gi (k := 7) (s := 15) rfl rfl (by first | assumption | rfl) (by first | assumption | rfl) ?_
    refine w_c_ge (k := 8) (t' := 15) rfl rfl (fun k2 => ?_) (fun k2 => ?_)
    · exact no _ (Or.inr (Or.inl k2))
    · refine wp_iload (k := 9) rfl rfl ?_
      refine wp_i2l (k := 10) rfl ?_
      refine w_lc (k := 11) (x := lN 1) rfl (ol_lN 1) ?_
      refine w_lc (k := 12) (x := lN 255) rfl (ol_lN 255) ?_
      refine w_Si (k := 13) [_, _, _] rfl rfl rfl (Nat.le_of_ble_eq_true rfl) (Or.inl ⟨rfl, rfl⟩) ?_
      refine (c_166 ?_)
      refine ⟨_, rfl, ?_⟩
      rw [show decide (lN 1 ≤ m.toInt64 ∧ m.toInt64 ≤ lN 255) = decide (¬ m < nI 1 ∧ ¬ nI 255 < m) from decide_eq_decide.mpr (in_kd m (by decide) (by decide))]
      refine w_b_ne (k := 14) (t' := 17) rfl rfl (fun k3 => ?_) (fun k3 => ?_)
      · have k3 := of_decide_eq_true k3
        obtain ⟨j, hj, rfl⟩ := nI_of k1
        have hj2 : j < A.length := by
          rcases Nat.lt_or_ge j A.length with q | q
          · exact q
          · exact absurd (nI_le q (by omega)) k2
        have hm0 : ¬ m < 0 := fun q => k3.1 (Int32.lt_trans q (by decide))
        obtain ⟨u, hu, rfl⟩ := nI_of hm0
        have hu2 : u ≤ 255 := (nI_leI (by omega) (by decide)).mp (Int32.not_lt.mp k3.2)
        have hg := gd_lt hA.2.1.2 j
        have hx := xor_lt hg (show u < 256 by omega)
        unfold rs_alt sp_alt at hq
        rw [if_neg (fun q => q.elim k1 (fun q => q.elim k2 (fun q => q.elim k3.1 k3.2))), nI_clamp (by omega), uI_nI (by omega)] at hq
        refine wp_aload (k := 17) rfl rfl ?_
        refine w_gr (k := 18) (s := 14) rfl rfl (by first | assumption | rfl) (by first | assumption | rfl) ?_
        refine wp_iload (k := 19) rfl rfl ?_
        refine wp_aload (k := 20) rfl rfl ?_
        refine w_gr (k := 21) (s := 14) rfl rfl (by first | assumption | rfl) (by first | assumption | rfl) ?_
        refine wp_iload (k := 22) rfl rfl ?_
        refine w_iald (k := 23) rfl rfl (by first | assumption | rfl) (by omega) (g2.1 j hj2) ?_
        refine wp_iload (k := 24) rfl rfl ?_
        refine wp_ixor (k := 25) rfl ?_
        rw [fb_xorI]
        have s2 := av_set g2 hj2 hx
        refine w_iast (k := 26) rfl rfl (by omega) (by first | assumption | rfl) (by omega) ?_
        refine wp_aload (k := 27) rfl rfl ?_
        refine w_gr (k := 28) (s := 14) rfl rfl (by first | assumption | rfl) (by first | assumption | rfl) ?_
        refine wp_iload (k := 29) rfl rfl ?_
        refine w_iald (k := 30) rfl rfl (by first | assumption | rfl) (by omega) (s2.1 j (by simpa using hj2)) ?_
        refine w_ri (k := 31) rfl rfl rfl rfl ?_
        exact hq _ ⟨by rw [am_uR (by decide)]; show _ = nI (A.set _ _).length; rw [List.length_set]; exact g1, s2, by show (A.set _ _).length ≤ 400; rw [List.length_set]; exact g3⟩ (fx_t (f_0 (v := nI 0) (by decide)) (fx_p (by decide) (by decide)))
      · have k3 := of_decide_eq_false k3
        exact no _ (Or.inr (Or.inr (Classical.not_not.mp (fun q => k3 ⟨fun a => q (Or.inl a), fun a => q (Or.inr a)⟩))))
end MD
